/** Promises 11 to 16: bids, the text, letters and undo. */
public final class BidsTest {
    public static void main(String[] args) {
        promise11();
        promise12();
        promises13And14();
        promise15();
        promise15Faults();
        promise15Groups();
        promise15Room();
        promise16();
        Script.end("BidsTest");
    }

    private static void promise11() {
        Script.run("11: bid", """
                addLot 0 10 0 = 0
                addBidder 100 = 0
                bid 0 0 1 0 0 = 0
                bid 0 0 1000000 100000 1000000 = 1
                bid 1 0 5 5 0 = UNKNOWN
                bid 0 1 5 5 0 = UNKNOWN
                bid -1 0 5 5 0 = UNKNOWN
                bid 0 -1 5 5 0 = UNKNOWN
                bid 1 0 0 -1 -1 = UNKNOWN
                bid 0 1 0 -1 -1 = UNKNOWN
                bid MOST LEAST 5 5 0 = UNKNOWN
                bid 0 0 0 5 0 = BAD_VALUE
                bid 0 0 1000001 5 0 = BAD_VALUE
                bid 0 0 5 -1 0 = BAD_VALUE
                bid 0 0 5 100001 0 = BAD_VALUE
                bid 0 0 5 5 -1 = BAD_VALUE
                bid 0 0 5 5 1000001 = BAD_VALUE
                bid 0 0 MOST LEAST MOST = BAD_VALUE
                count 2 = 2
                bidOf 1 0 = 0
                bidOf 1 1 = 0
                bidOf 1 2 = 1000000
                bidOf 1 3 = 100000
                bidOf 1 4 = 1000000
                bidOf 1 5 = 0
                withdrawLot 0 true = 1
                bid 0 0 5 5 3 = 2 ... 59
                bid 0 0 5 5 3 = FULL
                bid 0 0 5 5 -3 = BAD_VALUE
                bid 0 1 5 5 3 = UNKNOWN
                withdrawBid 7 = 0
                bid 0 0 5 5 3 = FULL
                undo = 3
                undo = 2
                count 2 = 59
                bid 0 0 6 5 3 = 59
                bidOf 59 2 = 6
                """);
    }

    private static void promise12() {
        Script.run("12: withdrawBid", """
                withdrawBid 0 = UNKNOWN
                addLot 0 10 0 = 0
                addLot 0 10 0 = 1
                addBidder 100 = 0
                bid 0 1 50 5 0 = 0
                bid 0 0 50 5 0 = 1
                bid 0 1 60 99999 0 = 2
                withdrawBid 0 = 1
                withdrawBid 0 = NOT_POSSIBLE
                withdrawBid 2 = 1
                withdrawBid 1 = 0
                withdrawBid 3 = UNKNOWN
                withdrawBid -1 = UNKNOWN
                withdrawBid MOST = UNKNOWN
                count 6 = 3
                count 2 = 3
                bidOf 0 5 = 1
                undo = 3
                bidOf 1 5 = 0
                bidOf 2 5 = 1
                count 6 = 2
                withdrawBid 1 = 0
                """);
        Script.run("12: a bid in place of one that was withdrawn and undone", """
                addLot 0 10 0 = 0
                addBidder 100 = 0
                bid 0 0 50 5 0 = 0
                withdrawBid 0 = 0
                undo = 3
                undo = 2
                bid 0 0 50 5 0 = 0
                bidOf 0 5 = 0
                """);
    }

    private static void promises13And14() {
        Script.run("13 and 14: type, clearText", """
                clearText = 0
                type '0' = 1 ... 80
                type '0' = FULL
                type '=' = FULL
                count 13 = 80
                count 12 = 0
                undo = NONE
                clearText = 80
                count 13 = 0
                clearText = 0
                type 'x' = 1
                type '?' = 2
                addLot 0 5 0 = 0
                type ',' = 3
                undo = 0
                count 13 = 3
                clearText = 3
                """);
        PostalAuction auction = new PostalAuction();
        char[] unusual = {0, 1, 127, 128, 255, 256, 0x0660, 0xD800, 0xFFFF};
        for (int i = 0; i < unusual.length; i++) {
            Script.due("13: type of sign " + (int) unusual[i], auction.type(unusual[i]), i + 1);
        }
        auction.addBidder(5);
        Script.due("13: letter of unusual signs", auction.letter(0, 0), -100);
    }

    private static void promise15() {
        Script.run("15: letter", """
                addLot 0 10 0 = 0
                addLot 0 10 0 = 1
                addBidder 100 = 0
                addBidder 100 = 1
                say 1=35,0=1000000/1=7
                count 12 = 4
                letter 2 5 = UNKNOWN
                letter -1 5 = UNKNOWN
                letter 2 -5 = UNKNOWN
                letter 0 -1 = BAD_VALUE
                letter 0 100001 = BAD_VALUE
                letter 1 100000 = 3
                count 12 = 4
                count 13 = 18
                count 2 = 3
                count 5 = 3
                bidOf 0 0 = 1
                bidOf 0 1 = 1
                bidOf 0 2 = 35
                bidOf 0 3 = 100000
                bidOf 0 4 = 0
                bidOf 0 5 = 0
                bidOf 1 0 = 0
                bidOf 1 2 = 1000000
                bidOf 1 3 = 100000
                bidOf 1 4 = 1
                bidOf 2 0 = 1
                bidOf 2 1 = 1
                bidOf 2 2 = 7
                bidOf 2 4 = 1
                letter 0 0 = 3
                bidOf 3 1 = 0
                bidOf 3 3 = 0
                bidOf 4 4 = 1
                undo = 3
                count 2 = 3
                undo = 2
                count 2 = 0
                count 13 = 18
                letter 0 5 = 3
                """);
        Script.run("15: a letter of one bid", """
                addLot 0 10 0 = 0
                addBidder 100 = 0
                say 0=1
                letter 0 5 = 1
                bidOf 0 2 = 1
                bidOf 0 4 = 0
                count 12 = 3
                """);
        Script.run("15: a fault comes behind the arguments", """
                addBidder 100 = 0
                say x
                letter 1 5 = UNKNOWN
                letter 0 100001 = BAD_VALUE
                letter 0 5 = -100
                """);
    }

    /** With lots 0 to 11, and the bidder 0. */
    private static void promise15Faults() {
        String[] texts = {
            "", "0", "0=", "=", ",", "/", "a", " 0=5", "1", "11", "12", "99", "00", "01", "05=5", "123", "113", "12=", "12a",
            "12=5", "12,", "120", "10=5", "11=5,", "11=5/", "1a", "1,", "1/", "1==", "0=0", "0=05", "0=00", "0=x", "0=,",
            "0=1000000", "0=1000001", "0=1000001,", "0=1000001x", "0=10000010", "0=10000000", "0=9999999", "0=99999990",
            "0=999999", "0=5;", "0=5 ", "0=5=", "0=5,,", "0=5//", "0=5/,", "0=5,12=5", "0=5,1=0", "0=5/1=7/2=1000001,13",
            "0=5,12", "0=5,1", "0=5,1=", "0=-5", "-1=5", "0=5,0=5/0=5", "0=5\t", "0=1000001/12=5", "12=1000001", "0:5",
            "0/5", "0=5.0", "0=5,00=5", "0=5,1=12345678", "0=5,1=2345678,"
        };
        int[] due = {
            -100, -101, -102, -100, -100, -100, -100, -100, -101, -102, -100, -100, -101, -101, -101, -102, -102, -100, -100,
            -100, -100, -102, 1, -105, -105, -101, -101, -101, -102, -102, -102, -102, -102, -102,
            1, -102, -102, -102, -109, -109, -102, -109,
            1, -103, -103, -103, -104, -104, -104, -104, -106, -110,
            -104, -105, -106, -102, -100, 3, -103, -102, -100, -101,
            -101, -103, -105, -113, -106
        };
        Script.due("15: the tables are as long as each other", texts.length, due.length);
        for (int i = 0; i < texts.length && i < due.length; i++) {
            PostalAuction auction = new PostalAuction();
            for (int lot = 0; lot < 12; lot++) {
                auction.addLot(0, 0, 0);
            }
            auction.addBidder(100);
            for (char character : texts[i].toCharArray()) {
                auction.type(character);
            }
            Script.due("15: the letter \"" + texts[i] + "\"", auction.letter(0, 0), due[i]);
            Script.due("15: bids of the letter \"" + texts[i] + "\"", auction.count(2), Math.max(due[i], 0));
            Script.due("15: text of the letter \"" + texts[i] + "\"", auction.count(13), texts[i].length());
        }
        Script.run("15: a lot that there is not yet", """
                addBidder 100 = 0
                say 0=5
                letter 0 5 = -100
                say 00=5
                letter 0 5 = -101
                addLot 0 0 0 = 0
                say 0=5
                letter 0 5 = 1
                undo = 2
                undo = 1
                letter 0 5 = -100
                """);
    }

    private static void promise15Groups() {
        Script.run("15: groups", """
                addLot 0 10 0 = 0
                addLot 0 10 0 = 1
                addBidder 100 = 0
                addBidder 100 = 1
                bid 0 0 5 0 7 = 0
                bid 1 0 5 0 1000000 = 1
                say 0=5/1=5,0=6,0=7/1=7/0=8
                letter 0 5 = 6
                bidOf 2 4 = 8
                bidOf 3 4 = 8
                bidOf 4 4 = 0
                bidOf 5 4 = 9
                bidOf 6 4 = 9
                bidOf 7 4 = 9
                letter 1 60000 = 6
                bidOf 8 4 = 1000001
                bidOf 10 4 = 0
                bidOf 13 4 = 1000002
                withdrawBid 11 = 0
                withdrawBid 12 = 1
                withdrawBid 13 = 0
                letter 1 5 = 6
                bidOf 14 4 = 1000003
                bidOf 19 4 = 1000004
                undo = 3
                letter 1 5 = 6
                bidOf 14 4 = 1000003
                say 0=5
                letter 1 5 = 1
                bidOf 20 4 = 0
                say 0=5,1=5
                letter 1 5 = 2
                bidOf 21 4 = 0
                bidOf 22 4 = 0
                """);
        Script.run("15: wishes of one bid at both ends", """
                addLot 0 10 0 = 0
                addBidder 100 = 0
                say 0=5,0=6/0=7,0=8/0=9,0=10
                letter 0 5 = 6
                bidOf 0 4 = 0
                bidOf 1 4 = 1
                bidOf 2 4 = 1
                bidOf 3 4 = 2
                bidOf 4 4 = 2
                bidOf 5 4 = 0
                """);
    }

    private static void promise15Room() {
        Script.run("15: room for 60 bids", """
                addLot 0 10 0 = 0
                addBidder 100 = 0
                say 0=1,0=2,0=3,0=4,0=5,0=6,0=7,0=8,0=9,0=1,0=2,0=3,0=4,0=5,0=6,0=7,0=8,0=9,0=1/0=22
                count 13 = 80
                letter 0 5 = 20
                bidOf 17 4 = 0
                bidOf 18 4 = 1
                bidOf 19 2 = 22
                letter 0 5 = 20
                bidOf 38 4 = 2
                bid 0 0 5 5 0 = 40
                letter 0 5 = FULL
                count 2 = 41
                undo = 3
                letter 0 5 = 20
                count 2 = 60
                letter 0 5 = FULL
                say 0=1
                letter 0 5 = FULL
                letter 0 -5 = BAD_VALUE
                letter 1 5 = UNKNOWN
                say 0=1,
                letter 0 5 = -104
                """);
        Script.run("15: a full text that ends too early", """
                addLot 0 10 0 = 0
                addBidder 100 = 0
                say 0=1,0=2,0=3,0=4,0=5,0=6,0=7,0=8,0=9,0=1,0=2,0=3,0=4,0=5,0=6,0=7,0=8,0=9,0=1/0=2,
                letter 0 5 = -180
                say 0=1,0=2,0=3,0=4,0=5,0=6,0=7,0=8,0=9,0=1,0=2,0=3,0=4,0=5,0=6,0=7,0=8,0=9,0=1/0=22
                letter 0 5 = 20
                say 0=1,0=2,0=3,0=4,0=5,0=6,0=7,0=8,0=9,0=1,0=2,0=3,0=4,0=5,0=6,0=7,0=8,0=9,0=11/00
                letter 0 5 = -178
                """);
    }

    private static void promise16() {
        Script.run("16: undo", """
                undo = NONE
                addLot 0 10 20 = 0
                undo = 0
                undo = NONE
                count 0 = 0
                addLot 0 10 20 = 0
                addBidder 100 = 0
                bid 0 0 50 5 0 = 0
                withdrawBid 0 = 0
                setReserve 0 30 = 20
                setLimit 0 70 = 100
                set 3 7 = 2
                setBand 0 9 = 1
                count 12 = 4
                undo = 3
                valid 9 0 = 5
                undo = 2
                count 11 = 2
                undo = 1
                bidder 0 0 = 100
                undo = 0
                lot 0 2 = 20
                undo = NONE
                bidOf 0 5 = 1
                count 2 = 1
                count 0 = 1
                """);
        Script.run("16: the sale after undo", """
                addLot 0 10 0 = 0
                addBidder 100 = 0
                bid 0 0 50 5 0 = 0
                sale 0 0 = 0
                withdrawLot 0 true = 1
                sale 0 0 = NONE
                undo = 3
                sale 0 0 = 0
                undo = 2
                sale 0 0 = NONE
                setBand 10 3 = 2
                setBand 20 3 = 3
                removeBand 10 = 2
                undo = 3
                count 7 = 3
                undo = 2
                count 7 = 2
                undo = 1
                undo = 0
                undo = NONE
                count 7 = 1
                """);
        Script.run("16: acts between undos", """
                set 3 1 = 2
                set 3 2 = 1
                set 3 3 = 2
                set 3 4 = 3
                set 3 5 = 4
                undo = 3
                count 11 = 4
                set 3 6 = 4
                set 3 7 = 6
                count 12 = 4
                undo = 3
                count 11 = 6
                undo = 2
                count 11 = 4
                undo = 1
                count 11 = 3
                undo = 0
                count 11 = 2
                undo = NONE
                count 11 = 2
                """);
    }
}
