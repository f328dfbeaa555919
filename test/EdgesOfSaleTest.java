/** The boundaries of 'Sale', as sale(), ranked() and bidOf() tell of them. */
public final class EdgesOfSaleTest {
    private static final String BIDDERS = "addBidder 1000 = 0 ... 2\n";
    private static final String LOT = "addLot 0 10 0 = 0\n";

    public static void main(String[] args) {
        worthByAmount();
        worthByLimit();
        starts();
        oneOfABidder();
        onlyThoseThatCount();
        orderByWorth();
        orderByPostmark();
        orderByArrival();
        reserves();
        askingPrices();
        secondBids();
        atMostTheFirst();
        ascendingLots();
        limitsShrink();
        limitsAreReached();
        withdrawnLots();
        Script.end("EdgesOfSaleTest");
    }

    private static void worthByAmount() {
        String title = "Sale: The worth of a bid is the floor of the lesser one of its amount and what is left";
        String bid = LOT + BIDDERS + "bid 0 0 # 5 0 = 0\n bidOf 0 6 = ";
        Script.each(title + " [amounts]", "1 2 4", bid + "0");
        Script.each(title + " [amounts]", "5 6 9", bid + "5");
        Script.each(title + " [amounts]", "10 11 14", bid + "10");
        Script.each(title + " [amounts around the limit]", "995 996 999", bid + "995");
        Script.each(title + " [amounts around the limit]", "1000 1001 1004 1005 1000000", bid + "1000");
    }

    private static void worthByLimit() {
        String title = "Sale: The worth of a bid is the floor of the lesser one of its amount and what is left [limits]";
        String bid = LOT + "addBidder # = 0\n bid 0 0 53 5 0 = 0\n bidOf 0 6 = ";
        Script.each(title, "0 1 4", bid + "0");
        Script.each(title, "5 6 9", bid + "5");
        Script.each(title, "49", bid + "45");
        Script.each(title, "50 51 52 53 54 55 10000000", bid + "50");
    }

    private static void starts() {
        String title = "Sale: whose worth is at least the ceiling of the start";
        String bid = "addLot 0 # 0 = 0\n" + BIDDERS + "bid 0 0 AMOUNT 5 0 = 0\n sale 0 3 = COUNT\n ranked 0 0 = FIRST\n";
        String counts = bid.replace("COUNT", "1").replace("FIRST", "0");
        String counted = bid.replace("COUNT", "0").replace("FIRST", "NONE");
        Script.each(title, "11 14 15", counted.replace("AMOUNT", "14"));
        Script.each(title, "11 14 15", counts.replace("AMOUNT", "15") + "sale 0 1 = 15");
        Script.each(title, "11 14 15", counts.replace("AMOUNT", "16") + "sale 0 1 = 15");
        Script.each(title, "16", counted.replace("AMOUNT", "19"));
        Script.each(title, "16", counts.replace("AMOUNT", "20"));
        Script.each(title, "0", counts.replace("AMOUNT", "1") + "sale 0 2 = 0\n sale 0 1 = 0");
        Script.each(title, "1 5", counted.replace("AMOUNT", "4"));
        Script.each(title, "1 5", counts.replace("AMOUNT", "5"));
        Script.run(title + " [1000000]", """
                addLot 0 1000000 0 = 0
                addBidder 10000000 = 0
                bid 0 0 999999 5 0 = 0
                sale 0 3 = 0
                bid 0 0 1000000 5 0 = 1
                sale 0 3 = 1
                sale 0 1 = 1000000
                setBand 0 3 = 1
                sale 0 3 = 0
                setBand 1000000 3 = 2
                sale 0 3 = 1
                """);
        Script.run(title + " [by what is left of the limit]", """
                addLot 0 12 0 = 0
                addBidder 14 = 0
                bid 0 0 50 5 0 = 0
                sale 0 2 = 1
                setLimit 0 15 = 14
                sale 0 2 = 0
                setLimit 0 16 = 15
                sale 0 2 = 0
                sale 0 1 = 15
                """);
        Script.run(title + " [not of the reserve]", """
                addLot 0 10 31 = 0
                addBidder 1000 = 0
                bid 0 0 10 5 0 = 0
                sale 0 3 = 1
                sale 0 2 = 2
                """);
    }

    private static void oneOfABidder() {
        String title = "Sale: Of several bids of one bidder that count, only the one with the greatest worth counts";
        Script.run(title, LOT + BIDDERS + """
                bid 0 0 31 5 0 = 0
                bid 0 0 36 5 0 = 1
                bid 0 0 26 5 0 = 2
                sale 0 3 = 1
                sale 0 4 = 1
                sale 0 5 = NONE
                ranked 0 0 = 1
                ranked 0 1 = NONE
                sale 0 1 = 10
                """);
        Script.run(title + ", of several the one that arrived first [by worth, not by amount]", LOT + BIDDERS + """
                bid 0 0 31 9 0 = 0
                bid 0 0 34 1 0 = 1
                sale 0 4 = 0
                bid 1 0 30 8 0 = 2
                sale 0 4 = 2
                sale 0 5 = 0
                bid 0 0 35 9 0 = 3
                sale 0 4 = 3
                """);
        Script.run(title + ", of several the one that arrived first [by what is left of the limit]", LOT + """
                addBidder 52 = 0
                addBidder 1000 = 1
                bid 0 0 60 9 0 = 0
                bid 0 0 90 1 0 = 1
                bid 0 0 50 1 0 = 2
                sale 0 4 = 0
                bid 1 0 50 5 0 = 3
                sale 0 4 = 3
                """);
        Script.run(title + " [of two bidders each]", LOT + BIDDERS + """
                bid 0 0 31 5 0 = 0
                bid 1 0 31 5 0 = 1
                bid 1 0 41 5 0 = 2
                bid 0 0 36 5 0 = 3
                sale 0 3 = 2
                sale 0 4 = 2
                sale 0 5 = 3
                sale 0 1 = 40
                """);
    }

    private static void onlyThoseThatCount() {
        String title = "Sale: Of several bids of one bidder that count, only the one with the greatest worth counts";
        Script.run(title + " [not a late one]", LOT + BIDDERS + """
                bid 0 0 31 5 0 = 0
                bid 0 0 61 50001 0 = 1
                sale 0 4 = 0
                """);
        Script.run(title + " [not a withdrawn one]", LOT + BIDDERS + """
                bid 0 0 31 5 0 = 0
                bid 0 0 61 5 0 = 1
                withdrawBid 1 = 0
                sale 0 4 = 0
                """);
        Script.run(title + " [not one that is not wanted any more]", LOT + BIDDERS + """
                addLot 0 10 0 = 1
                bid 0 0 31 5 2 = 0
                bid 0 1 61 5 2 = 1
                bid 0 1 31 5 0 = 2
                sale 1 4 = 2
                sale 1 3 = 1
                """);
        Script.run("Sale: For a lot, these bids count: bids for it", LOT + BIDDERS + """
                addLot 0 10 0 = 1
                bid 0 1 31 5 0 = 0
                sale 0 3 = 0
                sale 1 3 = 1
                """);
    }

    private static void orderByWorth() {
        Script.run("Sale: The bids that count are put in order: greater worth first", LOT + BIDDERS + """
                bid 0 0 34 1 0 = 0
                bid 1 0 35 9 0 = 1
                sale 0 4 = 1
                sale 0 5 = 0
                bid 2 0 40 9 0 = 2
                ranked 0 0 = 2
                ranked 0 1 = 1
                ranked 0 2 = 0
                """);
        Script.run("Sale: greater worth first [the least one arrived last, the greatest one first]", LOT + BIDDERS + """
                bid 0 0 40 9 0 = 0
                bid 1 0 35 5 0 = 1
                bid 2 0 30 1 0 = 2
                ranked 0 0 = 0
                ranked 0 1 = 1
                ranked 0 2 = 2
                """);
        Script.run("Sale: greater worth first [by worth, not by amount]", LOT + BIDDERS + """
                bid 0 0 34 5 0 = 0
                bid 1 0 30 4 0 = 1
                sale 0 4 = 1
                sale 0 1 = 30
                setBand 0 1 = 1
                sale 0 4 = 0
                sale 0 1 = 31
                """);
    }

    private static void orderByPostmark() {
        String title = "Sale: then the lesser postmark";
        Script.each(title, "0 6", LOT + BIDDERS + """
                bid 0 0 30 7 0 = 0
                bid 1 0 30 # 0 = 1
                sale 0 4 = 1
                sale 0 5 = 0
                sale 0 1 = 30
                """);
        Script.each(title, "7 8 50000", LOT + BIDDERS + """
                bid 0 0 30 7 0 = 0
                bid 1 0 30 # 0 = 1
                sale 0 4 = 0
                sale 0 5 = 1
                """);
        Script.run(title + " [of three]", LOT + BIDDERS + """
                bid 0 0 30 7 0 = 0
                bid 1 0 30 8 0 = 1
                bid 2 0 30 6 0 = 2
                ranked 0 0 = 2
                ranked 0 1 = 0
                ranked 0 2 = 1
                """);
    }

    private static void orderByArrival() {
        String title = "Sale: then the one that arrived first";
        Script.run(title, LOT + BIDDERS + """
                bid 2 0 30 7 0 = 0
                bid 0 0 30 7 0 = 1
                bid 1 0 30 7 0 = 2
                ranked 0 0 = 0
                ranked 0 1 = 1
                ranked 0 2 = 2
                sale 0 0 = 2
                """);
        Script.run(title + " [not the bidder's first bid, but the one that counts]", LOT + BIDDERS + """
                bid 0 0 11 7 0 = 0
                bid 1 0 30 7 0 = 1
                bid 0 0 30 7 0 = 2
                sale 0 0 = 1
                ranked 0 1 = 2
                """);
    }

    private static void reserves() {
        String title = "Sale: or the worth of the first one is less than the reserve, the lot is not sold";
        String bid = "addLot 0 10 # = 0\n" + BIDDERS + "bid 0 0 54 5 0 = 0\n bid 1 0 44 5 0 = 1\n";
        Script.each(title, "0 10 45", bid + "sale 0 2 = 0\n sale 0 0 = 0\n sale 0 1 = 45");
        Script.each(title, "46 49 50", bid + "sale 0 2 = 0\n sale 0 0 = 0\n sale 0 1 = 50");
        Script.each(title, "51 54 55 1000000", bid + """
                sale 0 2 = 2
                sale 0 0 = NONE
                sale 0 1 = 0
                sale 0 3 = 2
                sale 0 4 = 0
                sale 0 5 = 1
                bidder 0 1 = 1000
                """);
        Script.run(title + " [the greatest one]", """
                addLot 0 0 1000000 = 0
                addBidder 999999 = 0
                bid 0 0 1000000 5 0 = 0
                sale 0 2 = 2
                setLimit 0 1000000 = 999999
                sale 0 2 = 0
                sale 0 1 = 1000000
                bidder 0 1 = 0
                """);
        Script.run("Sale: If there is none, the lot is not sold", LOT + BIDDERS + """
                sale 0 2 = 1
                sale 0 0 = NONE
                sale 0 1 = 0
                sale 0 3 = 0
                sale 0 4 = NONE
                sale 0 5 = NONE
                """);
        Script.run("Sale: If there is none, the lot is not sold [with a reserve, too]", "addLot 0 10 60 = 0\n" + BIDDERS + """
                bid 0 0 9 5 0 = 0
                sale 0 2 = 1
                """);
    }

    private static void askingPrices() {
        String title = "Sale: The price is the greater one of the asking price and the next amount above the second's worth";
        String bids = "addLot 0 12 # = 0\n" + BIDDERS + "bid 0 0 99 5 0 = 0\n";
        Script.each(title + " [no second bid]", "0 12 13 15", bids + "sale 0 1 = 15");
        Script.each(title + " [no second bid]", "16 20", bids + "sale 0 1 = 20");
        Script.each(title + " [the reserve is greater]", "36 40", bids + "bid 1 0 34 5 0 = 1\n sale 0 1 = 40");
        Script.each(title + " [they are equal]", "31 35", bids + "bid 1 0 34 5 0 = 1\n sale 0 1 = 35");
        Script.each(title + " [the second bid's is greater]", "0 29 30", bids + "bid 1 0 34 5 0 = 1\n sale 0 1 = 35");
        Script.run(title + " [the start is the greater one]", "addLot 0 36 20 = 0\n" + BIDDERS + """
                bid 0 0 99 5 0 = 0
                bid 1 0 34 5 0 = 1
                sale 0 1 = 40
                sale 0 5 = NONE
                """);
    }

    private static void secondBids() {
        String title = "Sale: if there is a second bid, the next amount above its worth";
        String bids = "setBand 50 10 = 2\n" + LOT + BIDDERS + "bid 0 0 99 5 0 = 0\n bid 1 0 # 5 0 = 1\n sale 0 1 = ";
        Script.each(title, "10 14", bids + "15");
        Script.each(title, "40 44", bids + "45");
        Script.each(title, "45 49", bids + "50");
        Script.each(title, "50 59", bids + "60");
        Script.each(title, "60", bids + "70");
        Script.each(title, "80 89 90", bids + "90");
        Script.each(title + " [one that does not count is none]", "1 9", bids + "10");
        Script.each(title + " [a limit makes it low]", "30 34", LOT + """
                addBidder 1000 = 0
                addBidder # = 1
                bid 0 0 99 5 0 = 0
                bid 1 0 80 5 0 = 1
                sale 0 5 = 1
                sale 0 1 = 35
                """);
        Script.each(title + " [what is left of a limit makes it low]", "40 44", LOT + """
                addLot 0 10 0 = 1
                addBidder 1000 = 0
                addBidder # = 1
                bid 1 0 20 5 0 = 0
                bid 0 1 99 5 0 = 1
                bid 1 1 80 5 0 = 2
                sale 1 5 = 2
                sale 1 1 = 35
                """);
        Script.run(title + " [not the third one]", LOT + BIDDERS + """
                bid 2 0 21 5 0 = 0
                bid 1 0 31 5 0 = 1
                bid 0 0 61 5 0 = 2
                sale 0 1 = 35
                """);
        Script.run(title + " [not of the same bidder]", LOT + BIDDERS + """
                bid 0 0 41 5 0 = 0
                bid 0 0 61 5 0 = 1
                bid 1 0 31 5 0 = 2
                sale 0 1 = 35
                """);
    }

    private static void atMostTheFirst() {
        String title = "Sale: but at most the worth of the first bid";
        String bids = LOT + BIDDERS + "bid 0 0 # 4 0 = 0\n bid 1 0 50 5 0 = 1\n sale 0 0 = 0\n sale 0 1 = ";
        Script.each(title, "50 54", bids + "50");
        Script.each(title, "55 56 60", bids + "55");
        Script.run(title + " [the next amount would be above it by little]", "setBand 50 1 = 2\n setBand 51 100 = 3\n" + LOT
                + BIDDERS + """
                bid 0 0 51 4 0 = 0
                bid 1 0 51 5 0 = 1
                sale 0 1 = 51
                withdrawBid 1 = 0
                bid 1 0 50 5 0 = 2
                sale 0 1 = 51
                """);
        Script.run(title + " [the limit makes it low]", LOT + """
                addBidder 54 = 0
                addBidder 1000 = 1
                bid 0 0 99 4 0 = 0
                bid 1 0 50 5 0 = 1
                sale 0 1 = 50
                bidder 0 1 = 4
                setLimit 0 55 = 54
                sale 0 1 = 55
                bidder 0 1 = 0
                """);
    }

    private static void ascendingLots() {
        Script.run("Sale: The lots are sold one after the other, in ascending order", LOT + """
                addLot 0 10 0 = 1
                addLot 0 10 0 = 2
                addBidder 25 = 0
                bid 0 2 20 5 0 = 0
                bid 0 1 20 5 0 = 1
                bid 0 0 20 5 0 = 2
                sale 0 0 = 0
                sale 1 0 = 0
                sale 2 0 = NONE
                bidOf 2 6 = 20
                bidOf 1 6 = 15
                bidOf 0 6 = 5
                """);
        Script.run("Sale: withdrawn ones are left out", LOT + """
                addLot 0 10 0 = 1
                addBidder 15 = 0
                bid 0 0 15 5 0 = 0
                bid 0 1 15 5 0 = 1
                sale 1 0 = NONE
                withdrawLot 0 true = 1
                sale 0 0 = NONE
                sale 1 0 = 0
                bidOf 0 6 = 15
                bidOf 1 6 = 15
                withdrawLot 0 false = 0
                sale 0 0 = 0
                sale 1 0 = NONE
                """);
    }

    private static void limitsShrink() {
        Script.run("Sale: The limit that is left decreases by the price [not by the bid, nor with the premium]", LOT + """
                addLot 0 10 0 = 1
                addBidder 100 = 0
                addBidder 1000 = 1
                set 1 500 = 150
                bid 0 0 90 5 0 = 0
                bid 1 0 30 5 0 = 1
                bid 0 1 90 5 0 = 2
                sale 0 1 = 35
                bidOf 2 6 = 65
                bidder 0 1 = 55
                bidder 1 1 = 1000
                """);
        Script.run("Sale: The limit that is left decreases by the price [not by a lot that is not sold]", """
                addLot 0 10 95 = 0
                addLot 0 10 0 = 1
                addBidder 100 = 0
                bid 0 0 90 5 0 = 0
                bid 0 1 90 5 0 = 1
                bidOf 1 6 = 90
                setReserve 0 90 = 95
                bidOf 1 6 = 10
                """);
        Script.run("Sale: The limit that is left decreases by the price [of its buyer alone]", LOT + """
                addLot 0 10 0 = 1
                addBidder 100 = 0
                addBidder 100 = 1
                bid 1 0 90 5 0 = 0
                bid 0 0 80 5 0 = 1
                bid 0 1 99 5 0 = 2
                bid 1 1 99 5 0 = 3
                bidOf 2 6 = 95
                bidOf 3 6 = 15
                sale 1 0 = 0
                """);
    }

    private static void limitsAreReached() {
        String lots = LOT + "addLot 0 10 0 = 1\n addBidder # = 0\n bid 0 0 10 5 0 = 0\n bid 0 1 10 5 0 = 1\n";
        Script.each("Bidders: the prices of all lots that are sold to this bidder are together at most this", "20 21", lots
                + "bidder 0 2 = 2\n bidder 0 1 = #-20\n sale 1 0 = 0");
        Script.each("Bidders: the prices of all lots that are sold to this bidder are together at most this", "10 15 19", lots
                + "bidder 0 2 = 1\n bidder 0 1 = #-10\n sale 1 2 = 1\n sale 0 2 = 0");
        Script.each("Bidders: the prices of all lots that are sold to this bidder are together at most this", "0 5 9", lots
                + "bidder 0 2 = 0\n bidder 0 1 = #\n sale 1 2 = 1\n sale 0 2 = 1");
        Script.run("Bidders: the prices are together at most this [twenty lots]", """
                addLot 0 5 0 = 0 ... 19
                addBidder 100 = 0
                say 0=5,1=5,2=5,3=5,4=5,5=5,6=5,7=5,8=5,9=5,10=5,11=5,12=5,13=5,14=5
                letter 0 5 = 15
                say 15=5,16=5,17=5,18=5,19=5
                letter 0 5 = 5
                bidder 0 1 = 0
                bidder 0 2 = 20
                setLimit 0 99 = 100
                bidder 0 1 = 4
                bidder 0 2 = 19
                sale 19 2 = 1
                sale 18 2 = 0
                """);
    }

    private static void withdrawnLots() {
        Script.run("Promise 17: 3 withdrawn [with bids and without]", LOT + BIDDERS + """
                addLot 0 10 0 = 1
                bid 0 0 30 5 0 = 0
                bid 1 0 20 5 0 = 1
                withdrawLot 0 true = 1
                withdrawLot 1 true = 2
                sale 0 0 = NONE
                sale 0 1 = 0
                sale 0 2 = 3
                sale 0 3 = 0
                sale 0 4 = NONE
                sale 0 5 = NONE
                sale 1 2 = 3
                ranked 0 0 = NONE
                """);
    }
}
