/** The boundaries of 'Letters' and of the promises 13 to 15. */
public final class EdgesOfLettersTest {
    private static final String BIDDER = "addBidder 1000 = 0\n";
    private static final String LOTS = "addLot 0 0 0 = 0 ... 19\n";
    /** Twenty bids: the most that 80 characters can hold. */
    private static final String TWENTY = "0=1,0=2,0=3,0=4,0=5,0=6,0=7,0=8,0=9,0=1,0=2,0=3,0=4,0=5,0=6,0=7,0=8,0=9,0=1,0=2";

    public static void main(String[] args) {
        typed();
        cleared();
        everyCharacter();
        places();
        earlyEnds();
        lots();
        lotsThatAreThere();
        amounts();
        lengthsOfNumbers();
        argumentsFirst();
        groups();
        greatGroups();
        lettersAfterLetters();
        room();
        oneAct();
        Script.end("EdgesOfLettersTest");
    }

    private static void typed() {
        Script.run("Letters: There is a text of at most 80 characters, empty at first", """
                count 13 = 0
                type '0' = 1
                type '0' = 2 ... 78
                type '0' = 79
                type '0' = 80
                count 13 = 80
                type '0' = FULL
                type 'x' = FULL
                count 13 = 80
                count 12 = 0
                """);
        Script.run("Promise 13: FULL if it has 80 characters [until it is emptied]", """
                type '0' = 1 ... 80
                type '0' = FULL
                clearText = 80
                type '0' = 1 ... 80
                type '0' = FULL
                """);
        Script.run("Promise 13: FULL if it has 80 characters [the text stays as it is]", LOTS + BIDDER
                + "say " + TWENTY + "\n type '5' = 80\n" + """
                letter 0 5 = 20
                bidOf 19 2 = 25
                type '6' = FULL
                letter 0 5 = 20
                bidOf 39 2 = 25
                """);
    }

    private static void cleared() {
        Script.run("Promise 14: Returns the length that it had", """
                clearText = 0
                clearText = 0
                type '0' = 1
                clearText = 1
                count 13 = 0
                type '0' = 1 ... 79
                clearText = 79
                type '0' = 1 ... 80
                clearText = 80
                clearText = 0
                count 12 = 0
                """);
        Script.run("Promise 14: Empties the text [nothing of it stays]", LOTS + BIDDER + """
                say 0=55
                clearText = 4
                letter 0 5 = -100
                type '1' = 1
                letter 0 5 = -101
                type '=' = 2
                letter 0 5 = -102
                type '7' = 3
                letter 0 5 = 1
                bidOf 0 0 = 1
                bidOf 0 2 = 7
                """);
    }

    /** "any character": each is taken, and none but the right ones is read as a digit or a mark. */
    private static void everyCharacter() {
        for (int character = 0; character <= 0xFFFF; character += character < 1000 ? 1 : 251) {
            PostalAuction auction = new PostalAuction();
            auction.addLot(0, 0, 0);
            auction.addBidder(1000);
            String title = "Promise 13: `character`: any character [" + character + "]";
            Script.due(title, auction.type((char) character), 1);
            Script.due(title, auction.count(13), 1);
            Script.due(title, auction.letter(0, 5), character == '0' ? -101 : -100);
            Script.due(title, auction.type((char) character), 2);
            Script.due(title, auction.clearText(), 2);
        }
        PostalAuction auction = new PostalAuction();
        Script.due("Promise 13: any character [the last one]", auction.type((char) 0xFFFF), 1);
    }

    private static void places() {
        place("", "0123456789");
        place("1=5,", "0123456789");
        place("1=5/", "0123456789");
        place("0", "=");
        place("1=5,0", "=");
        place("1", "=0123456789");
        place("1=5/1", "=0123456789");
        place("10", "=");
        place("19", "=");
        place("1=", "123456789");
        place("0=", "123456789");
        place("10=", "123456789");
        place("1=5,0=", "123456789");
        place("1=5/10=", "123456789");
        place("1=1", "0123456789,/");
        place("1=9", "0123456789,/");
        place("1=10", "0123456789,/");
        place("1=100", "0123456789,/");
        place("1=1000", "0123456789,/");
        place("1=10000", "0123456789,/");
        place("1=1000000", ",/");
        place("1=1,0=5/12=1000000", ",/");
    }

    /** Behind a beginning without a fault, each character is either allowed or the fault, at its index. */
    private static void place(String beginning, String allowed) {
        for (int character = 0; character < 1800; character++) {
            PostalAuction auction = auctionOf(20, beginning + (char) character);
            long fault = -100 - beginning.length();
            long answer = auction.letter(0, 5);
            String title = "Letters: the first character that is not allowed at its place [" + beginning + " and "
                    + character + "]";
            boolean isAllowed = allowed.indexOf(character) >= 0;
            Script.due(title, answer == fault ? 0 : 1, isAllowed ? 1 : 0);
            Script.due(title, auction.count(2), answer > 0 ? answer : 0);
        }
    }

    private static PostalAuction auctionOf(int lots, String text) {
        PostalAuction auction = new PostalAuction();
        for (int lot = 0; lot < lots; lot++) {
            auction.addLot(0, 0, 0);
        }
        auction.addBidder(1000);
        for (char character : text.toCharArray()) {
            auction.type(character);
        }
        return auction;
    }

    private static void letter(String title, int lots, String text, long due) {
        PostalAuction auction = auctionOf(lots, text);
        String whole = "Letters: " + title + " [" + text + ", " + lots + " lots]";
        int states = auction.count(12);
        Script.due(whole, auction.letter(0, 5), due);
        Script.due(whole + " bids", auction.count(2), Math.max(due, 0));
        Script.due(whole + " length", auction.count(13), text.length());
        Script.due(whole + " states", auction.count(12), due >= 0 ? Math.min(states + 1, 4) : states);
    }

    private static void earlyEnds() {
        String title = "or its length if it ends too early";
        letter(title, 20, "", -100);
        letter(title, 20, "0", -101);
        letter(title, 20, "9", -101);
        letter(title, 20, "10", -102);
        letter(title, 20, "0=", -102);
        letter(title, 20, "10=", -103);
        letter(title, 20, "0=5,", -104);
        letter(title, 20, "0=5/", -104);
        letter(title, 20, "0=5,1", -105);
        letter(title, 20, "0=5/19", -106);
        letter(title, 20, "0=5/1=", -106);
        letter(title, 20, "0=1000000,", -110);
        letter(title, 20, TWENTY, 20);
        letter(title, 20, TWENTY + ",", -180);
        letter(title, 20, TWENTY + "/", -180);
        letter("at least one wish", 20, "0=5", 1);
        letter("at least one wish", 20, ",", -100);
        letter("at least one wish", 20, ",0=5", -100);
        letter("one or more alternatives", 20, "/0=5", -100);
        letter("one or more alternatives", 20, "0=5//0=5", -104);
        letter("with \",\" between each two", 20, "0=5,,0=5", -104);
        letter("with \",\" between each two", 20, "0=5,/0=5", -104);
        letter("with \"/\" between each two", 20, "0=5/,0=5", -104);
        letter("with \"/\" between each two", 20, "0=5/0=5", 2);
        letter("with \"/\" between each two", 20, "0=5/0=5,0=5", 3);
    }

    private static void lots() {
        String title = "A lot that there is not is a fault at its first digit, found when the number ends";
        letter(title, 0, "0", -100);
        letter(title, 0, "0=5", -100);
        letter(title, 0, "0x", -100);
        letter(title, 0, "00", -101);
        letter(title, 0, "01", -101);
        letter(title, 0, "1", -100);
        letter(title, 1, "1", -100);
        letter(title, 1, "1=", -100);
        letter(title, 1, "1=5", -100);
        letter(title, 1, "1,", -100);
        letter(title, 1, "1x", -100);
        letter(title, 1, "19", -100);
        letter(title, 1, "190", -102);
        letter(title, 1, "19x", -100);
        letter(title, 1, "1=x", -100);
        letter(title, 20, "20", -100);
        letter(title, 20, "20=5", -100);
        letter(title, 20, "200", -102);
        letter(title, 20, "20x", -100);
        letter(title, 20, "99=5", -100);
        letter(title, 20, "999", -102);
        letter(title, 20, "0=5,20", -104);
        letter(title, 20, "0=5,20=", -104);
        letter(title, 20, "0=5/20=5", -104);
        letter(title, 20, "0=5/200", -106);
        letter(title, 20, "0=5/20/", -104);
        letter("a lot has 1 or 2 digits", 20, "190=5", -102);
        letter("a lot has 1 or 2 digits", 20, "100", -102);
        letter("a lot has 1 or 2 digits", 20, "00", -101);
        letter("a lot has 1 or 2 digits", 20, "00=5", -101);
        letter("a lot has 1 or 2 digits", 20, "05=5", -101);
    }

    private static void lotsThatAreThere() {
        for (int lots = 1; lots <= 20; lots++) {
            letter("A lot that there is not [the last one]", lots, (lots - 1) + "=5", 1);
            letter("A lot that there is not [the first one]", lots, lots + "=5", -100);
            letter("A lot that there is not [the first one, behind others]", lots, "0=5," + lots + "=5", -104);
        }
        Script.run("Letters: A lot that there is not [a withdrawn one is there]", "addLot 0 0 0 = 0\n" + BIDDER + """
                withdrawLot 0 true = 1
                say 0=5
                letter 0 5 = 1
                fate 0 = 3
                """);
        Script.run("Letters: A lot that there is not [by the lots as they are now]", "addLot 0 0 0 = 0\n" + BIDDER + """
                say 1=5
                letter 0 5 = -100
                addLot 0 0 0 = 1
                letter 0 5 = 1
                undo = 3
                undo = 2
                letter 0 5 = -100
                """);
    }

    private static void amounts() {
        String title = "an amount above 1000000 is a fault at its first digit, found when the number ends";
        letter(title, 20, "0=999999", 1);
        letter(title, 20, "0=1000000", 1);
        letter(title, 20, "0=1000001", -102);
        letter(title, 20, "0=9999999", -102);
        letter(title, 20, "0=1000001,", -102);
        letter(title, 20, "0=1000001/", -102);
        letter(title, 20, "0=1000001,0=5", -102);
        letter(title, 20, "0=1000001=", -102);
        letter(title, 20, "0=1000001x", -102);
        letter(title, 20, "0=10000010", -109);
        letter(title, 20, "0=10000000", -109);
        letter(title, 20, "0=99999999", -109);
        letter(title, 20, "0=1000000,1=1000000", 2);
        letter(title, 20, "0=1000000,1=1000001", -112);
        letter(title, 20, "10=1000001", -103);
        letter(title, 20, "10=1000001,20=5", -103);
        letter(title, 20, "20=1000001", -100);
        letter(title, 20, "0=1000000,", -110);
        letter(title, 20, "0=1000000x", -109);
    }

    private static void lengthsOfNumbers() {
        String title = "an amount 1 to 7 digits, both without zeros in front";
        letter(title, 20, "0=1", 1);
        letter(title, 20, "0=12", 1);
        letter(title, 20, "0=123456", 1);
        letter(title, 20, "0=12345678", -109);
        letter(title, 20, "0=123456789", -109);
        letter(title, 20, "0=0", -102);
        letter(title, 20, "0=00", -102);
        letter(title, 20, "0=05", -102);
        letter(title, 20, "0=0000005", -102);
        letter(title, 20, "0=5,1=05", -106);
        letter(title, 20, "10=05", -103);
        letter("a lot can be the single digit 0", 1, "0=5", 1);
        letter("a lot can be the single digit 0", 20, "1=5,0=5", 2);
        letter("a lot can be the single digit 0", 20, "1=5/00=5", -105);
        for (String amount : "1 9 10 19 100 999 1000 9999 10000 99999 100000 123456 999999 1000000".split(" ")) {
            Script.run("Letters: a wish tells a lot and an amount [" + amount + "]", LOTS + BIDDER
                    + "say 13=" + amount + "\n letter 0 5 = 1\n bidOf 0 0 = 13\n bidOf 0 2 = " + amount);
        }
        for (int lot = 0; lot < 20; lot++) {
            Script.run("Letters: a wish tells a lot and an amount [lot " + lot + "]", LOTS + BIDDER
                    + "say " + lot + "=77\n letter 0 5 = 1\n bidOf 0 0 = " + lot + "\n bidOf 0 2 = 77");
        }
    }

    private static void argumentsFirst() {
        String one = "addLot 0 0 0 = 0\n" + BIDDER;
        Script.range("Promise 15: `postmark`: 0 to 100000", 0, 100000, one + """
                say 0=5,0=6
                letter 0 # = 2
                bidOf 0 3 = #
                bidOf 1 3 = #
                """, one + "say 0=5\n letter 0 # = BAD_VALUE\n count 2 = 0");
        Script.each("Promise 15: UNKNOWN; BAD_VALUE [in this order]", "-1 1", one + """
                say 0=5
                letter # -1 = UNKNOWN
                letter # 100001 = UNKNOWN
                say x
                letter # 5 = UNKNOWN
                """);
        Script.run("Promise 15: BAD_VALUE; -100 minus the fault of the text if it has one [in this order]", one + """
                letter 0 -1 = BAD_VALUE
                letter 0 5 = -100
                say 0=5,
                letter 0 100001 = BAD_VALUE
                letter 0 5 = -104
                """);
        Script.run("Promise 15: UNKNOWN; BAD_VALUE; -100 minus the fault; FULL [in this order]", one + """
                bid 0 0 5 5 0 = 0 ... 59
                say 0=5
                letter 1 5 = UNKNOWN
                letter 0 100001 = BAD_VALUE
                letter 0 5 = FULL
                say 1=5
                letter 0 5 = -100
                say 0=5,
                letter 0 5 = -104
                say 0=5,0=1000001
                letter 0 5 = -106
                clearText = 13
                letter 0 5 = -100
                """);
    }

    private static void groups() {
        Script.run("Letters: The alternatives of a wish with at least two of them get a group; all others 0", LOTS + BIDDER + """
                say 0=5,1=6/2=7,3=8/4=9/5=10,6=11
                letter 0 5 = 7
                bidOf 0 4 = 0
                bidOf 1 4 = 1
                bidOf 2 4 = 1
                bidOf 3 4 = 2
                bidOf 4 4 = 2
                bidOf 5 4 = 2
                bidOf 6 4 = 0
                bidOf 0 0 = 0
                bidOf 3 0 = 3
                bidOf 3 2 = 8
                bidOf 6 0 = 6
                bidOf 6 2 = 11
                """);
        Script.run("Letters: the least number above 0 that is above all groups of this bidder so far [there is none]",
                LOTS + BIDDER + """
                bid 0 0 5 5 0 = 0
                say 0=5/1=5
                letter 0 5 = 2
                bidOf 1 4 = 1
                bidOf 2 4 = 1
                letter 0 5 = 2
                bidOf 3 4 = 2
                bidOf 4 4 = 2
                """);
        Script.run("Letters: above all groups of this bidder so far [not into a gap]", LOTS + BIDDER + """
                bid 0 0 5 5 9 = 0
                bid 0 0 5 5 2 = 1
                say 0=5/1=5,2=5/3=5
                letter 0 5 = 4
                bidOf 2 4 = 10
                bidOf 4 4 = 11
                """);
        Script.run("Letters: above all groups of this bidder so far [not of others]", LOTS + BIDDER + """
                addBidder 1000 = 1
                bid 1 0 5 5 9 = 0
                say 0=5/1=5
                letter 0 5 = 2
                bidOf 1 4 = 1
                letter 1 5 = 2
                bidOf 3 4 = 10
                """);
        Script.run("Letters: above all groups of this bidder so far [withdrawn and late bids count]", LOTS + BIDDER + """
                bid 0 0 5 5 4 = 0
                withdrawBid 0 = 0
                say 0=5/1=5
                letter 0 5 = 2
                bidOf 1 4 = 5
                bid 0 0 5 50001 8 = 3
                letter 0 5 = 2
                bidOf 4 4 = 9
                letter 0 50001 = 2
                bidOf 6 4 = 10
                letter 0 5 = 2
                bidOf 8 4 = 11
                """);
        Script.run("Letters: above all groups of this bidder so far [an undone bid is not there]", LOTS + BIDDER + """
                bid 0 0 5 5 4 = 0
                undo = 3
                say 0=5/1=5
                letter 0 5 = 2
                bidOf 0 4 = 1
                undo = 3
                letter 0 5 = 2
                bidOf 0 4 = 1
                """);
    }

    private static void greatGroups() {
        Script.each("Letters: the least number that is above all groups (also above 1000000)", "1 999998 999999 1000000",
                LOTS + BIDDER + """
                bid 0 0 5 5 # = 0
                say 0=5/1=5,2=5/3=5
                letter 0 5 = 4
                bidOf 1 4 = #+1
                bidOf 2 4 = #+1
                bidOf 3 4 = #+2
                bidOf 4 4 = #+2
                """);
        Script.run("Letters: also above 1000000 [they are alternatives as others are]", LOTS + BIDDER + """
                bid 0 9 5 5 1000000 = 0
                say 0=5/1=5,2=5/3=5
                letter 0 5 = 4
                fate 1 = 0
                fate 2 = 4
                fate 3 = 0
                fate 4 = 4
                fate 0 = 0
                """);
    }

    /** What an earlier letter told, or began to tell before its fault, does not stay. */
    private static void lettersAfterLetters() {
        String[] earlier = {"0=5,0=6/0=7", "0=5/0=6/0=7", "0=5/0=6/0=7/0=8", "0=5,0=6/0=7/0=8,0=9/0=1", "0=5,0=6,0=7/0=8",
            "0=5/0=6/0=7x", "0=5,0=6/0=7,", "12", "12=3", "1=1000001", "1=", "0=5,1=12345678"};
        for (String text : earlier) {
            letterBehind(text, "7=2", 0);
            letterBehind(text, "7=2,8=3", 0, 0);
            letterBehind(text, "7=2,8=3,9=4", 0, 0, 0);
            letterBehind(text, "7=2/8=3", 1, 1);
            letterBehind(text, "7=2/8=3,9=4", 1, 1, 0);
            letterBehind(text, "7=2,8=3/9=4", 0, 1, 1);
        }
    }

    private static void letterBehind(String earlier, String text, int... groups) {
        PostalAuction auction = auctionOf(20, earlier);
        auction.letter(0, 5);
        auction.clearText();
        for (char character : text.toCharArray()) {
            auction.type(character);
        }
        auction.addBidder(1000);
        int first = auction.count(2);
        String title = "Letters: get a group; all other bids get the group 0 [" + text + " behind " + earlier + "]";
        Script.due(title, auction.letter(1, 6), groups.length);
        for (int i = 0; i < groups.length; i++) {
            Script.due(title, auction.bidOf(first + i, 0), 7 + i);
            Script.due(title, auction.bidOf(first + i, 1), 1);
            Script.due(title, auction.bidOf(first + i, 2), 2 + i);
            Script.due(title, auction.bidOf(first + i, 3), 6);
            Script.due(title, auction.bidOf(first + i, 4), groups[i]);
        }
    }

    private static void room() {
        String one = "addLot 0 0 0 = 0\n" + BIDDER;
        Script.run("Promise 15: FULL if there would be more than 60 bids [one bid]", one + """
                bid 0 0 5 5 0 = 0 ... 57
                say 0=5
                letter 0 5 = 1
                count 2 = 59
                letter 0 5 = 1
                count 2 = 60
                letter 0 5 = FULL
                count 2 = 60
                """);
        Script.run("Promise 15: FULL if there would be more than 60 bids [two bids]", one + """
                bid 0 0 5 5 0 = 0 ... 57
                say 0=5/0=6
                letter 0 5 = 2
                count 2 = 60
                undo = 3
                bid 0 0 5 5 0 = 58
                letter 0 5 = FULL
                count 2 = 59
                bid 0 0 5 5 0 = 59
                letter 0 5 = FULL
                """);
        Script.run("Promise 15: FULL if there would be more than 60 bids [twenty bids]", one + "say " + TWENTY + "\n" + """
                letter 0 5 = 20
                letter 0 5 = 20
                bid 0 0 5 5 0 = 40
                letter 0 5 = FULL
                count 2 = 41
                undo = 3
                letter 0 5 = 20
                count 2 = 60
                """);
        Script.run("Promise 15: FULL if there would be more than 60 bids [withdrawn ones count]", one + """
                bid 0 0 5 5 0 = 0 ... 59
                withdrawBid 0 = 0
                say 0=5
                letter 0 5 = FULL
                """);
    }

    private static void oneAct() {
        Script.run("Promise 15: The bids of the text, which stays, arrive. This is one act", LOTS + BIDDER + """
                say 3=5,1=6/2=7
                undo = 3
                undo = 2
                addBidder 1000 = 0
                addLot 0 0 0 = 19
                letter 0 5 = 3
                count 12 = 4
                count 13 = 11
                count 2 = 3
                bidOf 0 0 = 3
                bidOf 1 0 = 1
                bidOf 2 0 = 2
                undo = 3
                count 2 = 0
                count 13 = 11
                letter 0 50001 = 3
                count 5 = 3
                """);
        Script.run("Letters: By a letter, all its bids arrive in their order, with one postmark [behind others]", LOTS + BIDDER + """
                addBidder 1000 = 1
                bid 0 7 50 9 0 = 0
                say 7=50,7=51
                letter 1 9 = 2
                bidOf 1 1 = 1
                bidOf 1 2 = 50
                bidOf 2 2 = 51
                bidOf 1 3 = 9
                bidOf 2 3 = 9
                ranked 7 0 = 0
                ranked 7 1 = 1
                fate 2 = 6
                """);
    }
}
