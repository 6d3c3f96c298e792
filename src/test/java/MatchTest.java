/** Of the terms: how a message is MATCHED by its table, and the ERRORS 4, 5 and 6 that come of it. */
public final class MatchTest {
    public static void main(String[] args) {
        segmentsOnly();
        groupsOfSegments();
        groupsInGroups();
        openLists();
        ends();
        behindTheTable();
        asOftenAsMost();
        groupsAsOftenAsMost();
        hadAnewEachTime();
        mustAndNotHad();
        firstErrorAlone();
        triggersThatAreAlike();
        twentyFourItems();
        threeDeep();
        startsAnew();
        Check.end();
    }

    private static void is(Desk desk, String tags, String want) {
        String[] each = tags.isEmpty() ? new String[0] : tags.split(" ");
        Check.due("message of " + tags, Check.verdictOf(desk, each), want);
    }

    private static Desk with(String words) {
        Desk desk = new Desk();
        Check.table(desk, 1, words);
        return desk;
    }

    private static void segmentsOnly() {
        Desk desk = with("AAA!1 BBB2 CCC!3");
        is(desk, "AAA CCC", "0 at -1");
        is(desk, "AAA BBB BBB CCC CCC CCC", "0 at -1");
        is(desk, "", "5 at 2");
        is(desk, "AAA", "5 at 3");
        is(desk, "AAA BBB", "5 at 4");
        is(desk, "BBB", "5 at 2");
        is(desk, "CCC", "5 at 2");
        is(desk, "AAA AAA CCC", "6 at 3");
        is(desk, "AAA BBB BBB BBB CCC", "6 at 5");
        is(desk, "AAA CCC CCC CCC CCC", "6 at 6");
        is(desk, "AAA CCC BBB", "4 at 4");
        is(desk, "AAA CCC XXX", "4 at 4");
        is(desk, "AAA XXX CCC", "5 at 3");
        is(desk, "AAA CCC XXX YYY", "4 at 4");

        // One stays at an item that was had as often as may be, even if the next one has its tag.
        is(with("AAA1 AAA1"), "AAA AAA", "6 at 3");
        is(with("AAA1 BBB AAA1"), "AAA BBB AAA", "0 at -1");
        is(with("AAA99"), "AAA ".repeat(36).trim(), "0 at -1");
        is(with("AAA"), "", "0 at -1");
    }

    private static void groupsOfSegments() {
        Desk desk = with("AAA (2 BBB! CCC!2 DDD ) EEE!");
        is(desk, "EEE", "0 at -1");
        is(desk, "BBB CCC EEE", "0 at -1");
        is(desk, "BBB CCC CCC DDD BBB CCC EEE", "0 at -1");
        is(desk, "BBB CCC BBB CCC BBB CCC EEE", "6 at 6");
        is(desk, "BBB EEE", "5 at 3");
        is(desk, "BBB BBB CCC EEE", "5 at 3");
        is(desk, "BBB CCC BBB EEE", "5 at 5");
        is(desk, "BBB CCC CCC CCC EEE", "6 at 5");
        is(desk, "CCC", "5 at 2");
        is(desk, "BBB CCC DDD CCC EEE", "5 at 5");
        is(desk, "BBB CCC EEE BBB", "4 at 5");
        is(desk, "BBB CCC", "5 at 4");

        Desk alone = with("(3 BBB! ) CCC");
        is(alone, "BBB BBB BBB CCC", "0 at -1");
        is(alone, "BBB BBB BBB BBB", "6 at 5");
        is(alone, "BBB BBB XXX", "4 at 4");
        is(alone, "", "0 at -1");

        Desk must = with("(!3 BBB! CCC ) DDD");
        is(must, "", "5 at 2");
        is(must, "DDD", "5 at 2");
        is(must, "BBB DDD", "0 at -1");
        // The items of a group are had anew each time it is.
        is(must, "BBB CCC BBB CCC BBB CCC DDD", "0 at -1");
        is(must, "BBB CCC CCC", "6 at 4");
    }

    private static void groupsInGroups() {
        Desk desk = with("(9 AAA! (2 BBB! (!2 CCC! DDD! ) ) EEE ) FFF!");
        is(desk, "FFF", "0 at -1");
        is(desk, "AAA FFF", "0 at -1");
        is(desk, "AAA BBB CCC DDD FFF", "0 at -1");
        is(desk, "AAA BBB CCC DDD CCC DDD BBB CCC DDD EEE AAA FFF", "0 at -1");
        is(desk, "AAA BBB CCC DDD AAA BBB CCC DDD CCC DDD FFF", "0 at -1");
        is(desk, "AAA BBB FFF", "5 at 4");
        is(desk, "AAA BBB BBB", "5 at 4");
        is(desk, "AAA BBB CCC AAA", "5 at 5");
        is(desk, "AAA BBB CCC DDD CCC DDD CCC", "6 at 8");
        is(desk, "AAA BBB CCC DDD BBB CCC DDD BBB", "6 at 9");
        // A group inside is had from none again when the one around it is had again.
        is(desk, "AAA BBB CCC DDD BBB CCC DDD AAA BBB CCC DDD BBB CCC DDD FFF", "0 at -1");
        is(desk, "AAA EEE BBB", "5 at 4");
        is(desk, "AAA BBB CCC DDD FFF AAA", "4 at 7");
    }

    /** "(a list that is still open counts as it is)"; "An empty list is passed like that." */
    private static void openLists() {
        Desk desk = with("AAA (2 BBB! CCC");
        is(desk, "AAA BBB CCC BBB", "0 at -1");
        is(desk, "AAA BBB CCC DDD", "4 at 5");
        is(desk, "BBB CCC BBB CCC BBB", "6 at 6");
        Check.due("the list stays open", desk.slot(1, Check.tag("DDD"), true, 1), 5);
        is(desk, "AAA BBB CCC DDD", "0 at -1");
        is(desk, "AAA BBB CCC", "5 at 5");

        Desk empty = with("AAA (2");
        is(empty, "AAA", "0 at -1");
        is(empty, "AAA BBB", "4 at 3");
        Desk must = with("AAA (!2");
        is(must, "AAA", "5 at 3");
        is(must, "AAA BBB", "5 at 3");
        is(with("AAA (2 BBB! (!1"), "AAA", "0 at -1");
        is(with("AAA (2 BBB! (!1"), "AAA BBB", "5 at 4");
        is(with("AAA (2 BBB! (1"), "AAA BBB BBB", "0 at -1");
        is(with("(2"), "", "0 at -1");
        is(with("(!2"), "", "5 at 2");
    }

    /** "At UNT: from where one stands on, list by list up to the table, it is ERROR 5 if .." */
    private static void ends() {
        Desk inner = with("(1 AAA! (1 BBB! CCC! ) ) DDD");
        is(inner, "AAA", "0 at -1");
        is(inner, "AAA BBB", "5 at 4");
        is(inner, "AAA BBB CCC", "0 at -1");
        is(with("(1 AAA! (1 BBB! ) CCC! ) DDD"), "AAA BBB", "5 at 4");
        is(with("(1 AAA! (1 BBB! ) CCC ) DDD!"), "AAA BBB", "5 at 4");
        is(with("(1 AAA! (1 BBB! ) CCC ) DDD"), "AAA BBB", "0 at -1");
        is(with("(1 AAA! (!1 BBB! ) )"), "AAA", "5 at 3");
        // "(the items behind the one at which one stands have n = 0)"
        is(with("AAA BBB CCC!"), "AAA", "5 at 3");
        is(with("AAA!9 BBB!"), "AAA AAA", "5 at 4");
        is(with("AAA!9 BBB"), "AAA AAA", "0 at -1");
        is(with("AAA BBB CCC!"), "CCC", "0 at -1");
        is(with("(9 AAA! BBB! ) CCC"), "AAA BBB AAA", "5 at 5");
        // What an item that was not had would ask for inside of it does not count.
        is(with("AAA (1 BBB! CCC! )"), "AAA", "0 at -1");
    }

    /** "behind the last one of the table it is ERROR 4" */
    private static void behindTheTable() {
        is(with("AAA"), "BBB", "4 at 2");
        is(with("AAA"), "AAA BBB", "4 at 3");
        is(with("AAA BBB"), "BBB AAA", "4 at 3");
        is(with("(9 AAA! BBB )"), "AAA BBB CCC", "4 at 4");
        is(with("(9 AAA! BBB )"), "BBB", "4 at 2");
        is(with("(9 AAA! (9 BBB! (9 CCC! ) ) )"), "AAA BBB CCC DDD", "4 at 5");
        is(with("(9 AAA! (9 BBB! (9 CCC! ) ) )"), "AAA BBB CCC CCC BBB AAA BBB CCC AAA", "0 at -1");
        is(with("(9 AAA! (9 BBB! (9 CCC! ) ) )"), "AAA CCC", "4 at 3");
        is(with("(9 AAA! (9 BBB! (9 CCC! ) ) )"), "BBB", "4 at 2");
    }

    /** "it is ERROR 6 if n is MOST already, otherwise n grows by 1" */
    private static void asOftenAsMost() {
        for (int most : new int[] {1, 2, 3, 9, 10, 34, 35}) {
            is(with("AAA" + most), "AAA ".repeat(most).trim(), "0 at -1");
            is(with("AAA" + most), "AAA ".repeat(most + 1).trim(), "6 at " + (2 + most));
            is(with("AAA!" + most + " BBB"), "AAA ".repeat(most) + "BBB", "0 at -1");
        }
        for (int most : new int[] {36, 37, 98, 99}) {
            is(with("AAA" + most), "AAA ".repeat(36).trim(), "0 at -1");
        }
        is(with("AAA1 AAA1"), "AAA AAA", "6 at 3");
        is(with("AAA2 AAA!1"), "AAA AAA AAA", "6 at 4");
        is(with("AAA2 AAA!1"), "AAA AAA", "5 at 4");
    }

    private static void groupsAsOftenAsMost() {
        for (int most : new int[] {1, 2, 3, 10, 17}) {
            is(with("(" + most + " AAA! BBB )"), "AAA BBB ".repeat(most).trim(), "0 at -1");
            is(with("(" + most + " AAA! BBB )"), "AAA BBB ".repeat(most) + "AAA", "6 at " + (2 + 2 * most));
        }
        // A group that was had as often as may be is not passed for another one with its trigger.
        is(with("(1 AAA! ) (1 AAA! )"), "AAA AAA", "6 at 3");
        is(with("(1 AAA! ) AAA"), "AAA AAA", "6 at 3");
        is(with("AAA (1 AAA! )"), "AAA AAA", "6 at 3");
        is(with("(99 AAA! )"), "AAA ".repeat(36).trim(), "0 at -1");
    }

    /** "for a group one goes to the item behind its trigger then, with n = 0" */
    private static void hadAnewEachTime() {
        Desk desk = with("(3 AAA! BBB!1 (2 CCC! ) )");
        is(desk, "AAA BBB AAA BBB AAA BBB", "0 at -1");
        is(desk, "AAA BBB AAA AAA", "5 at 5");
        is(desk, "AAA BBB BBB", "6 at 4");
        is(desk, "AAA BBB CCC CCC AAA BBB CCC CCC", "0 at -1");
        is(desk, "AAA BBB CCC CCC CCC", "6 at 6");
        is(desk, "AAA BBB CCC AAA BBB CCC CCC CCC", "6 at 9");
        // The trigger is had once with its group, and not once more as the first item.
        is(with("(1 AAA! BBB )"), "AAA AAA", "6 at 3");
        is(with("(2 AAA! BBB )"), "AAA AAA", "0 at -1");
        is(with("(2 AAA! AAA )"), "AAA AAA", "0 at -1");
        is(with("(1 AAA! AAA )"), "AAA AAA", "0 at -1");
        is(with("(1 AAA! AAA )"), "AAA AAA AAA", "6 at 4");
        // "one goes on at the group whose list it is, with the n it had there"
        is(with("(2 AAA! (2 BBB! ) )"), "AAA BBB BBB AAA BBB BBB", "0 at -1");
        is(with("(2 AAA! (2 BBB! ) )"), "AAA BBB AAA BBB AAA", "6 at 6");
    }

    /** "it is ERROR 5 if it has MUST and n is 0; otherwise one goes on to the next item with n = 0" */
    private static void mustAndNotHad() {
        is(with("AAA! BBB"), "BBB", "5 at 2");
        is(with("AAA BBB"), "BBB", "0 at -1");
        is(with("AAA! BBB"), "AAA BBB", "0 at -1");
        is(with("AAA!9 BBB! CCC"), "AAA CCC", "5 at 3");
        is(with("AAA!9 BBB CCC"), "AAA CCC", "0 at -1");
        is(with("(!9 AAA! ) BBB"), "BBB", "5 at 2");
        is(with("(9 AAA! ) BBB"), "BBB", "0 at -1");
        is(with("(!9 AAA! ) BBB"), "AAA BBB", "0 at -1");
        is(with("AAA BBB CCC DDD! EEE"), "EEE", "5 at 2");
        is(with("AAA BBB CCC DDD EEE"), "EEE", "0 at -1");
        // An item that is passed does not come back.
        is(with("AAA9 BBB9"), "AAA BBB AAA", "4 at 4");
    }

    private static void firstErrorAlone() {
        is(with("AAA! BBB1"), "BBB AAA AAA CCC", "5 at 2");
        is(with("AAA! BBB1"), "AAA AAA CCC", "6 at 3");
        is(with("AAA BBB!1"), "AAA CCC", "5 at 3");
        is(with("AAA BBB"), "CCC AAA AAA", "4 at 2");
        is(with("AAA1 BBB!"), "AAA AAA", "6 at 3");
    }

    private static void triggersThatAreAlike() {
        // The item at which one stands is asked first, then the ones behind it, then the group.
        is(with("(3 AAA! (2 AAA! ) )"), "AAA AAA AAA", "0 at -1");
        is(with("(3 AAA! (2 AAA! ) )"), "AAA AAA AAA AAA", "6 at 5");
        is(with("(3 AAA! BBB ) BBB"), "AAA BBB BBB", "6 at 4");
        is(with("(3 AAA! BBB ) BBB"), "AAA BBB AAA BBB", "0 at -1");
        is(with("(3 AAA! BBB ) CCC BBB"), "AAA BBB CCC BBB", "0 at -1");
    }

    /** "a table has at most 24 items": all of them are matched. */
    private static void twentyFourItems() {
        StringBuilder words = new StringBuilder();
        StringBuilder tags = new StringBuilder();
        for (int k = 0; k < 24; k++) {
            String tag = "AA" + (char) ('A' + k);
            words.append(k == 0 ? "" : " ").append(tag).append(k == 23 ? "!2" : "");
            tags.append(k == 0 ? "" : " ").append(tag);
        }
        Desk desk = with(words.toString());
        is(desk, tags.toString(), "0 at -1");
        is(desk, "AAX", "0 at -1");
        is(desk, "AAX AAX", "0 at -1");
        is(desk, "AAX AAX AAX", "6 at 4");
        is(desk, "", "5 at 2");
        is(desk, "AAY", "5 at 2");
        is(desk, "AAX AAY", "4 at 3");
        is(desk, "AAW AAX AAW", "4 at 4");
    }

    /** "Groups stand at most 3 deep in one another" */
    private static void threeDeep() {
        Desk desk = with("(2 AAA! (2 BBB! (2 CCC! DDD! ) EEE! ) FFF! ) GGG!");
        is(desk, "AAA BBB CCC DDD EEE FFF GGG", "0 at -1");
        is(desk, "AAA BBB CCC DDD CCC DDD EEE BBB EEE FFF AAA FFF GGG", "0 at -1");
        is(desk, "AAA BBB CCC DDD", "5 at 6");
        is(desk, "AAA BBB CCC DDD EEE", "5 at 7");
        is(desk, "AAA BBB CCC DDD EEE FFF", "5 at 8");
        is(desk, "AAA BBB CCC DDD BBB", "5 at 6");
        is(desk, "AAA BBB CCC DDD GGG", "5 at 6");
        is(desk, "AAA BBB CCC DDD CCC DDD CCC", "6 at 8");
        is(desk, "AAA BBB EEE BBB EEE BBB", "6 at 7");
        is(desk, "AAA FFF AAA FFF AAA", "6 at 6");
        is(desk, "GGG AAA", "4 at 3");
        // 24 items with groups within groups.
        Desk full = with("(9 AAA! (9 BBB! (9 CCC! DDD ) ) ) EEE (9 FFF! (9 GGG! (9 HHH! III ) ) ) JJJ"
                + " (9 KKK! (9 LLL! (9 MMM! NNN! OOO");
        is(full, "AAA BBB CCC DDD EEE FFF GGG HHH III JJJ KKK LLL MMM NNN OOO KKK LLL MMM NNN", "0 at -1");
        is(full, "KKK LLL MMM", "5 at 5");
        is(full, "KKK LLL MMM NNN OOO OOO", "6 at 7");
        Check.due("it is full", Check.answer(() -> full.slot(1, Check.tag("PPP"), false, 1)), Check.STATE);
    }

    /** "at first at the first one of the table with n = 0": each message and each read anew. */
    private static void startsAnew() {
        Desk desk = with("AAA!1 (2 BBB! CCC1 )");
        Check.due("read", Check.read(desk, "UNB'UNH+1+1'AAA'BBB'CCC'BBB'UNT+6+1'UNH+2+1'AAA'BBB'CCC'BBB'CCC'UNT+7+2'"
                + "UNH+3+1'BBB'UNT+3+3'UNH+4+1'AAA'UNT+3+4'UNZ'"), 4);
        Check.due("message 0", Check.verdict(desk, 0), "0 at -1");
        Check.due("message 1", Check.verdict(desk, 1), "0 at -1");
        Check.due("message 2", Check.verdict(desk, 2), "5 at 15");
        Check.due("message 3", Check.verdict(desk, 3), "0 at -1");
        is(desk, "AAA", "0 at -1");
        is(desk, "BBB", "5 at 2");
        // Messages that had an error leave none to the next one.
        is(desk, "AAA BBB CCC CCC", "6 at 5");
        is(desk, "AAA BBB CCC", "0 at -1");
    }
}
