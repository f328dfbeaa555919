import java.util.ArrayList;
import java.util.List;

/** The boundaries of 'History' and of promise 16, and what an act does to the sale that is told. */
public final class EdgesOfHistoryTest {
    /** Two lots, two bidders and four bids; the lots go to the bidders 0 and 1. */
    private static final String SOME = """
            addLot 0 10 0 = 0
            addLot 1 10 0 = 1
            addBidder 100 = 0
            addBidder 100 = 1
            bid 0 0 31 5 0 = 0
            bid 1 0 21 5 0 = 1
            bid 1 1 41 5 0 = 2
            bid 0 1 26 5 0 = 3
            """;
    /** Each kind of act, also those that leave all as it was; they can follow on three acts that make the first bid. */
    private static final String[] ACTS = {
        "setBand 50 7 = 2", "setBand 0 7 = 1", "setBand 0 5 = 1", "addLot 4 5 6 = 1", "setReserve 0 25 = 0",
        "setReserve 0 0 = 0", "withdrawLot 0 true = 1", "addBidder 3 = 1", "setLimit 0 20 = 100", "setLimit 0 100 = 100",
        "set 0 4 = 50000", "set 0 50000 = 50000", "set 1 4 = 150", "set 1 150 = 150", "set 2 4 = 100", "set 2 100 = 100",
        "set 3 4 = 2", "set 3 2 = 2", "bid 0 0 50 5 0 = 1", "bid 0 0 1 50001 0 = 1", "withdrawBid 0 = 0", "letter 0 5 = 2"
    };

    public static void main(String[] args) {
        numberOfStates();
        oldestIsDropped();
        everyActRecords();
        actsThatUndoActs();
        noAct();
        refusedActs();
        stateIsEverything();
        textStays();
        toldAsIfHeldNow();
        undoneAsIfHeldNow();
        manyCalls();
        Script.end("EdgesOfHistoryTest");
    }

    private static void numberOfStates() {
        Script.run("Promise 16: NONE if the history is empty", """
                undo = NONE
                undo = NONE
                set 3 5 = 2
                undo = 0
                undo = NONE
                count 11 = 2
                count 12 = 0
                """);
        for (int acts = 1; acts <= 9; acts++) {
            StringBuilder lines = new StringBuilder();
            for (int act = 1; act <= acts; act++) {
                lines.append("set 3 ").append(act + 2).append(" = ").append(act + 1).append('\n');
                lines.append("count 12 = ").append(Math.min(act, 4)).append('\n');
            }
            int states = Math.min(acts, 4);
            for (int undos = 1; undos <= states; undos++) {
                lines.append("undo = ").append(states - undos).append('\n');
                lines.append("count 11 = ").append(acts + 2 - undos).append('\n');
                lines.append("count 12 = ").append(states - undos).append('\n');
            }
            lines.append("undo = NONE\n count 11 = ").append(acts + 2 - states);
            Script.run("History: A history of at most 4 states is kept [" + acts + " acts]", lines.toString());
        }
    }

    private static void oldestIsDropped() {
        Script.run("History: when one more is recorded, the oldest one is dropped [not the latest one]", """
                addLot 0 0 1 = 0
                addLot 0 0 2 = 1
                addLot 0 0 3 = 2
                addLot 0 0 4 = 3
                count 12 = 4
                addLot 0 0 5 = 4
                count 12 = 4
                undo = 3
                count 0 = 4
                undo = 2
                count 0 = 3
                undo = 1
                count 0 = 2
                undo = 0
                count 0 = 1
                undo = NONE
                count 0 = 1
                """);
        Script.run("History: undo() removes and restores the latest one [acts between undos]", """
                set 3 11 = 2
                set 3 12 = 11
                set 3 13 = 12
                undo = 2
                count 11 = 12
                set 3 14 = 12
                set 3 15 = 14
                count 12 = 4
                set 3 16 = 15
                undo = 3
                undo = 2
                set 3 17 = 14
                undo = 2
                undo = 1
                count 11 = 12
                undo = 0
                count 11 = 11
                undo = NONE
                """);
    }

    private static void everyActRecords() {
        for (String act : ACTS) {
            Script.run("History: Each call of an act records the state before it [" + act + "]", """
                    say 0=5,0=6
                    addLot 0 10 0 = 0
                    addBidder 100 = 0
                    bid 0 0 31 5 0 = 0
                    count 12 = 3
                    """ + act + """

                    count 12 = 4
                    undo = 3
                    count 2 = 1
                    undo = 2
                    count 2 = 0
                    """);
            restores(act);
        }
        restores("removeBand 50 = 2");
        restores("removeBand 60 = 2");
        restores("withdrawBid 3 = 1");
    }

    /** What is told behind the act and undo must be what was told before the act. */
    private static void restores(String act) {
        List<Call> before = new ArrayList<>();
        for (String line : ("setBand 60 4 = 2\nsetBand 50 3 = 3\n" + SOME).split("\n")) {
            before.add(callOf(line));
        }
        for (char character : "0=5/1=5,0=6".toCharArray()) {
            before.add(new Call("type", character));
        }
        List<Call> behind = new ArrayList<>(before);
        behind.add(callOf(act));
        behind.add(new Call("undo"));
        String difference = Telling.difference(Telling.state(behind), Telling.state(before));
        if (!difference.isEmpty()) {
            System.out.println("undo behind " + act + ": " + difference);
        }
        Script.due("Promise 16: Restores the latest state of the history [" + act + "]", difference.isEmpty() ? 0 : 1, 0);
    }

    private static Call callOf(String line) {
        return Script.parse(line.substring(0, line.indexOf(" = ")));
    }

    private static void actsThatUndoActs() {
        Script.run("History: Each call of an act records the state before it [bands]", """
                setBand 50 7 = 2
                setBand 50 8 = 2
                removeBand 50 = 1
                count 12 = 3
                undo = 2
                valid 50 2 = 58
                undo = 1
                valid 50 2 = 57
                undo = 0
                valid 50 2 = 55
                """);
        Script.run("History: Each call of an act records the state before it [lots and back]", """
                addLot 0 10 0 = 0
                withdrawLot 0 true = 1
                withdrawLot 0 false = 0
                count 12 = 3
                undo = 2
                lot 0 3 = 1
                undo = 1
                lot 0 3 = 0
                undo = 0
                count 0 = 0
                """);
    }

    private static void noAct() {
        Script.run("History: a method that is described as an act [type, clearText, undo and what tells are none]",
                "addLot 0 10 0 = 0\n addBidder 100 = 0\n bid 0 0 21 5 0 = 0\n" + """
                count 12 = 3
                type '0' = 1
                count 12 = 3
                clearText = 1
                count 12 = 3
                valid 7 0 = 5
                sale 0 0 = 0
                ranked 0 0 = 0
                fate 0 = 0
                needed 0 0 5 = 25
                lot 0 4 = 10
                bidOf 0 6 = 20
                bidder 0 1 = 90
                seller 0 3 = 9
                account 6 = 2
                count 2 = 1
                count 12 = 3
                undo = 2
                count 12 = 2
                count 2 = 0
                """);
    }

    private static void refusedActs() {
        Script.run("History: and that returns no error, records the state before it", """
                addLot 0 10 0 = 0
                count 12 = 1
                setBand -1 5 = BAD_VALUE
                removeBand 0 = NOT_POSSIBLE
                addLot 5 0 0 = UNKNOWN
                addLot 0 -1 0 = BAD_VALUE
                setReserve 1 0 = UNKNOWN
                setReserve 0 -1 = BAD_VALUE
                withdrawLot 1 true = UNKNOWN
                withdrawLot 0 false = NOT_POSSIBLE
                addBidder -1 = BAD_VALUE
                setLimit 0 5 = UNKNOWN
                set 4 0 = UNKNOWN
                set 0 -1 = BAD_VALUE
                bid 0 0 5 5 0 = UNKNOWN
                withdrawBid 0 = UNKNOWN
                letter 0 5 = UNKNOWN
                count 12 = 1
                addBidder 100 = 0
                setLimit 0 -1 = BAD_VALUE
                bid 0 0 0 5 0 = BAD_VALUE
                letter 0 -1 = BAD_VALUE
                letter 0 5 = -100
                count 12 = 2
                bid 0 0 5 5 0 = 0
                withdrawBid 0 = 0
                withdrawBid 0 = NOT_POSSIBLE
                count 12 = 4
                undo = 3
                undo = 2
                undo = 1
                undo = 0
                undo = NONE
                """);
        Script.run("History: and that returns no error, records the state before it [FULL]", """
                addBidder 100 = 0 ... 7
                addLot 0 10 0 = 0 ... 19
                bid 0 0 5 5 0 = 0 ... 55
                setBand 1 1 = 2
                setBand 2 1 = 3
                setBand 3 1 = 4
                setBand 4 1 = 5
                setBand 5 1 = 6
                setBand 6 1 = 7
                setBand 7 1 = 8
                bid 0 0 5 5 0 = 56 ... 59
                say 0=5
                addBidder 5 = FULL
                addLot 0 5 5 = FULL
                bid 0 0 5 5 0 = FULL
                setBand 8 1 = FULL
                letter 0 5 = FULL
                count 12 = 4
                undo = 3
                count 2 = 59
                undo = 2
                count 2 = 58
                undo = 1
                count 2 = 57
                undo = 0
                count 2 = 56
                """);
    }

    private static void stateIsEverything() {
        Script.run("History: A state is everything but the text and the history", """
                set 0 1 = 50000
                set 1 2 = 150
                set 2 3 = 100
                set 3 4 = 2
                undo = 3
                count 11 = 2
                count 10 = 3
                undo = 2
                count 10 = 100
                count 9 = 2
                undo = 1
                count 9 = 150
                count 8 = 1
                undo = 0
                count 8 = 50000
                """);
        Script.run("History: A state is everything [what is made anew behind undo is new]", """
                addLot 3 10 20 = 0
                withdrawLot 0 true = 1
                undo = 1
                undo = 0
                addLot 4 11 21 = 0
                lot 0 0 = 4
                lot 0 1 = 11
                lot 0 2 = 21
                lot 0 3 = 0
                addBidder 100 = 0
                undo = 1
                addBidder 200 = 0
                bidder 0 0 = 200
                bid 0 0 31 7 9 = 0
                withdrawBid 0 = 0
                undo = 3
                undo = 2
                bid 0 0 41 8 0 = 0
                bidOf 0 2 = 41
                bidOf 0 3 = 8
                bidOf 0 4 = 0
                bidOf 0 5 = 0
                """);
    }

    private static void textStays() {
        Script.run("History: A state is everything but the text", """
                addLot 0 10 0 = 0
                addBidder 100 = 0
                say 0=5
                set 3 5 = 2
                clearText = 3
                set 3 6 = 5
                type '0' = 1
                type '=' = 2
                undo = 3
                count 13 = 2
                undo = 2
                count 13 = 2
                type '8' = 3
                undo = 1
                count 13 = 3
                addBidder 100 = 0
                letter 0 5 = 1
                bidOf 0 2 = 8
                """);
    }

    private static final String[] HELD = {
        "setBand 20 1 = 2|sale 0 1 = 25|22", "removeBand 22 = 1|sale 0 1 = 22|25",
        "setReserve 0 28 = 0|sale 0 1 = 25|30", "setReserve 0 31 = 0|sale 0 2 = 0|2",
        "withdrawLot 0 true = 1|sale 0 2 = 0|3", "withdrawLot 0 true = 1|bidder 0 1 = 75|100",
        "setLimit 0 19 = 100|sale 0 0 = 0|1", "setLimit 1 9 = 100|sale 0 1 = 25|10", "set 0 4 = 50000|sale 0 2 = 0|1",
        "set 1 500 = 150|bidder 0 3 = 28|37", "set 2 500 = 100|seller 0 3 = 23|13", "set 3 9 = 2|account 3 = 0|0",
        "bid 1 0 36 5 0 = 4|sale 0 0 = 0|1", "bid 1 0 29 5 0 = 4|sale 0 1 = 25|30",
        "withdrawBid 1 = 0|sale 0 1 = 25|10", "withdrawBid 0 = 0|fate 1 = 7|0", "letter 1 4 = 1|sale 0 0 = 0|1",
        "addLot 0 5 5 = 2|account 3 = 0|2", "addBidder 5 = 2|count 1 = 2|3", "withdrawLot 0 true = 1|needed 0 0 5 = 35|NONE",
        "withdrawLot 0 true = 1|ranked 0 0 = 0|NONE", "withdrawLot 0 true = 1|fate 0 = 0|3",
        "withdrawLot 0 true = 1|count 3 = 2|1", "setLimit 0 24 = 100|bidOf 0 6 = 30|20",
        "setReserve 0 31 = 0|seller 0 1 = 1|0", "setLimit 0 19 = 100|account 0 = 55|40"
    };

    /** Each row: an act, what is asked, its answer before the act and behind it. */
    private static void toldAsIfHeldNow() {
        for (String row : HELD) {
            String[] parts = row.split("\\|");
            String asked = parts[1].substring(0, parts[1].indexOf(" = "));
            String before = parts[0].startsWith("removeBand") ? "setBand 22 50 = 2\n" : "";
            Script.run("Sale: Everything is told as if it were held now [" + row + "]", before + SOME + "say 0=31\n"
                    + parts[1] + "\n" + parts[0] + "\n" + asked + " = " + parts[2]);
        }
    }

    private static void undoneAsIfHeldNow() {
        for (String row : HELD) {
            String[] parts = row.split("\\|");
            String asked = parts[1].substring(0, parts[1].indexOf(" = "));
            String before = parts[0].startsWith("removeBand") ? "setBand 22 50 = 2\n" : "";
            Script.run("Sale: Everything is told as if it were held now [undone: " + row + "]", before + SOME
                    + "say 0=31\n" + parts[0] + "\n" + asked + " = " + parts[2] + "\n undo = 3\n" + parts[1]);
        }
    }

    /** "An object is used for at most 512 calls": the last ones are answered as the first ones. */
    private static void manyCalls() {
        String title = "What it is: at most 512 calls";
        PostalAuction acts = new PostalAuction();
        for (int i = 0; i < 507; i++) {
            Script.due(title + " [act " + i + "]", acts.set(3, (i + 1) * 7 % 1000), i == 0 ? 2 : i * 7 % 1000);
        }
        for (int states = 3; states >= 0; states--) {
            Script.due(title + " [undo behind 507 acts]", acts.undo(), states);
        }
        Script.due(title + " [the 512th]", acts.count(11), 503 * 7 % 1000);
        PostalAuction backAndForth = new PostalAuction();
        for (int i = 0; i < 256; i++) {
            Script.due(title + " [act and undo " + i + "]", backAndForth.addLot(0, i, 0), 0);
            Script.due(title + " [act and undo " + i + "]", backAndForth.undo(), 0);
        }
    }
}
