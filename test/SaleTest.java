/** Promises 17 to 20: the sale, as 'Sale' in the document tells it. */
public final class SaleTest {
    public static void main(String[] args) {
        promise17States();
        promise17Prices();
        promise17Worths();
        promise17Limits();
        promise17Ties();
        promise17Alternatives();
        promise18();
        promise19();
        promise20();
        promise20Limits();
        promise20Zero();
        promise20None();
        Script.end("SaleTest");
    }

    private static void promise17States() {
        Script.run("17: states", """
                sale 0 0 = UNKNOWN
                addLot 0 10 0 = 0
                addLot 0 10 50 = 1
                addLot 0 10 0 = 2
                addLot 0 10 0 = 3
                addBidder 1000 = 0
                addBidder 1000 = 1
                bid 0 0 30 5 0 = 0
                bid 1 0 20 5 0 = 1
                bid 0 1 49 5 0 = 2
                bid 1 1 40 5 0 = 3
                bid 0 2 30 5 0 = 4
                bid 0 2 40 5 0 = 5
                withdrawLot 2 true = 1
                sale 0 0 = 0
                sale 0 1 = 25
                sale 0 2 = 0
                sale 0 3 = 2
                sale 0 4 = 0
                sale 0 5 = 1
                sale 1 0 = NONE
                sale 1 1 = 0
                sale 1 2 = 2
                sale 1 3 = 2
                sale 1 4 = 2
                sale 1 5 = 3
                sale 2 0 = NONE
                sale 2 1 = 0
                sale 2 2 = 3
                sale 2 3 = 0
                sale 2 4 = NONE
                sale 2 5 = NONE
                sale 3 0 = NONE
                sale 3 1 = 0
                sale 3 2 = 1
                sale 3 3 = 0
                sale 3 4 = NONE
                sale 3 5 = NONE
                sale 4 0 = UNKNOWN
                sale -1 0 = UNKNOWN
                sale 4 6 = UNKNOWN
                sale 0 6 = BAD_VALUE
                sale 0 -1 = BAD_VALUE
                sale MOST LEAST = UNKNOWN
                withdrawLot 2 false = 0
                sale 2 0 = 0
                sale 2 1 = 10
                sale 2 3 = 1
                sale 2 4 = 5
                sale 2 5 = NONE
                setReserve 1 45 = 50
                sale 1 0 = 0
                sale 1 1 = 45
                withdrawBid 5 = 2
                sale 2 4 = 4
                withdrawBid 4 = 2
                sale 2 2 = 1
                """);
    }

    private static void promise17Prices() {
        Script.run("17: prices", """
                setBand 100 10 = 2
                addLot 0 12 0 = 0
                addLot 0 0 93 = 1
                addBidder 1000000 = 0
                addBidder 1000000 = 1
                bid 0 0 500 5 0 = 0
                sale 0 1 = 15
                bid 1 0 16 5 0 = 1
                sale 0 1 = 20
                bid 1 0 99 6 0 = 2
                sale 0 1 = 100
                bid 1 0 100 7 0 = 3
                sale 0 1 = 110
                bid 1 0 495 8 0 = 4
                sale 0 1 = 500
                bid 1 0 509 8 0 = 5
                sale 0 0 = 0
                sale 0 1 = 500
                bid 1 0 509 4 0 = 6
                sale 0 0 = 0
                withdrawBid 5 = 0
                withdrawBid 6 = 0
                bid 1 0 509 4 0 = 7
                sale 0 0 = 1
                sale 0 1 = 500
                bid 0 1 95 5 0 = 8
                sale 1 1 = 95
                setReserve 1 95 = 93
                sale 1 0 = 0
                setReserve 1 96 = 95
                sale 1 2 = 2
                setReserve 1 1000000 = 96
                bid 0 1 999999 5 0 = 9
                sale 1 2 = 2
                bid 0 1 1000000 5 0 = 10
                sale 1 2 = 0
                setLimit 0 999999 = 1000000
                sale 1 2 = 2
                setLimit 0 10000000 = 999999
                setBand 0 1 = 2
                setBand 100 7 = 2
                sale 1 2 = 2
                setReserve 1 999995 = 1000000
                sale 1 2 = 2
                setReserve 1 999994 = 999995
                sale 1 2 = 0
                sale 1 1 = 999994
                """);
    }

    private static void promise17Worths() {
        Script.run("17: worths at the start", """
                addLot 0 12 0 = 0
                addLot 0 0 0 = 1
                addBidder 1000 = 0
                bid 0 0 14 5 0 = 0
                sale 0 3 = 0
                bid 0 0 15 5 0 = 1
                sale 0 3 = 1
                sale 0 4 = 1
                sale 0 1 = 15
                bid 0 1 1 5 0 = 2
                sale 1 0 = 0
                sale 1 1 = 0
                sale 1 2 = 0
                sale 1 3 = 1
                set 0 4 = 50000
                sale 0 2 = 1
                set 0 5 = 4
                sale 0 2 = 0
                setBand 13 4 = 2
                sale 0 1 = 13
                bidOf 0 6 = 13
                bidOf 1 6 = 13
                sale 0 4 = 0
                """);
    }

    private static void promise17Limits() {
        Script.run("17: limits shrink from lot to lot", """
                addLot 0 10 0 = 0
                addLot 0 10 0 = 1
                addLot 0 10 0 = 2
                addBidder 63 = 0
                addBidder 1000 = 1
                bid 0 2 50 5 0 = 0
                bid 0 1 50 5 0 = 1
                bid 0 0 50 5 0 = 2
                bid 1 0 15 5 0 = 3
                bid 1 1 20 5 0 = 4
                sale 0 1 = 20
                sale 1 1 = 25
                bidOf 1 6 = 40
                bidOf 0 6 = 15
                sale 2 1 = 10
                bidder 0 1 = 8
                bidder 1 1 = 1000
                bid 1 2 15 6 0 = 5
                sale 2 0 = 0
                sale 2 1 = 15
                bid 1 2 20 6 0 = 6
                sale 2 0 = 1
                sale 2 1 = 20
                withdrawLot 1 true = 1
                sale 2 0 = 0
                sale 2 1 = 25
                bidOf 1 6 = 40
                bidOf 0 6 = 40
                setReserve 0 60 = 0
                sale 0 2 = 2
                bidOf 0 6 = 50
                setLimit 0 0 = 63
                sale 2 0 = 1
                sale 2 1 = 10
                bidOf 0 6 = 0
                """);
    }

    private static void promise17Ties() {
        Script.run("17: ties", """
                addLot 0 10 0 = 0
                addBidder 1000 = 0
                addBidder 1000 = 1
                addBidder 1000 = 2
                bid 0 0 52 9 0 = 0
                bid 1 0 50 9 0 = 1
                sale 0 0 = 0
                sale 0 1 = 50
                bid 2 0 51 8 0 = 2
                sale 0 0 = 2
                sale 0 4 = 2
                sale 0 5 = 0
                bid 1 0 54 7 0 = 3
                sale 0 0 = 2
                ranked 0 2 = 1
                withdrawBid 1 = 0
                sale 0 0 = 1
                sale 0 4 = 3
                bid 0 0 55 50000 0 = 4
                sale 0 0 = 0
                sale 0 1 = 55
                sale 0 3 = 3
                """);
    }

    private static void promise17Alternatives() {
        Script.run("17: alternatives", """
                addLot 0 10 0 = 0
                addLot 0 10 0 = 1
                addLot 0 10 0 = 2
                addLot 0 10 0 = 3
                addBidder 1000 = 0
                addBidder 1000 = 1
                bid 0 0 50 5 7 = 0
                bid 0 1 50 5 7 = 1
                bid 0 2 50 5 8 = 2
                bid 1 1 20 5 7 = 3
                bid 0 3 30 5 7 = 4
                bid 0 3 20 5 0 = 5
                sale 0 0 = 0
                sale 1 0 = 1
                sale 1 1 = 10
                sale 2 0 = 0
                sale 3 0 = 0
                sale 3 4 = 5
                sale 3 1 = 10
                bid 1 0 60 5 0 = 6
                sale 0 0 = 1
                sale 1 0 = 0
                sale 1 1 = 25
                sale 3 4 = 5
                bid 0 1 55 5 0 = 7
                sale 1 4 = 7
                sale 3 4 = 4
                bid 0 3 40 5 7 = 8
                sale 3 4 = 8
                fate 4 = 6
                """);
        Script.run("17: no group is no alternative", """
                addLot 0 10 0 = 0
                addLot 0 10 0 = 1
                addBidder 1000 = 0
                bid 0 0 50 5 0 = 0
                bid 0 1 50 5 0 = 1
                sale 0 0 = 0
                sale 1 0 = 0
                """);
        Script.run("17: the reserve is missed by an alternative", """
                addLot 0 10 60 = 0
                addLot 0 10 0 = 1
                addBidder 1000 = 0
                bid 0 0 50 5 1 = 0
                bid 0 1 50 5 1 = 1
                sale 0 2 = 2
                sale 1 0 = 0
                setReserve 0 50 = 60
                sale 0 0 = 0
                sale 1 2 = 1
                """);
    }

    private static void promise18() {
        Script.run("18: ranked", """
                ranked 0 0 = UNKNOWN
                addLot 0 10 70 = 0
                addLot 0 10 0 = 1
                addBidder 1000 = 0 ... 7
                bid 7 0 40 5 0 = 0
                bid 6 0 45 5 0 = 1
                bid 5 0 42 4 0 = 2
                bid 4 0 40 4 0 = 3
                bid 3 0 60 5 0 = 4
                bid 2 0 9 5 0 = 5
                bid 1 0 44 5 0 = 6
                bid 0 0 10 50001 0 = 7
                bid 3 0 61 1 0 = 8
                bid 7 0 46 5 0 = 9
                ranked 0 0 = 4
                ranked 0 1 = 1
                ranked 0 2 = 9
                ranked 0 3 = 2
                ranked 0 4 = 3
                ranked 0 5 = 6
                ranked 0 6 = NONE
                ranked 0 7 = NONE
                ranked 0 8 = NONE
                ranked 0 MOST = NONE
                ranked 0 -1 = BAD_VALUE
                ranked 0 LEAST = BAD_VALUE
                ranked 1 0 = NONE
                ranked 2 0 = UNKNOWN
                ranked 2 -1 = UNKNOWN
                ranked -1 0 = UNKNOWN
                bid 2 0 69 6 0 = 10
                bid 0 0 1000 6 0 = 11
                bid 0 1 20 6 0 = 12
                ranked 0 0 = 11
                ranked 0 1 = 10
                ranked 0 7 = 6
                ranked 0 8 = NONE
                ranked 1 0 = 12
                ranked 1 1 = NONE
                withdrawLot 0 true = 1
                ranked 0 0 = NONE
                """);
    }

    private static void promise19() {
        Script.run("19: fate", """
                fate 0 = UNKNOWN
                addLot 0 10 0 = 0
                addLot 0 30 0 = 1
                addLot 0 10 0 = 2
                addBidder 1000 = 0
                addBidder 1000 = 1
                bid 0 0 50 5 3 = 0
                bid 0 1 29 60000 3 = 1
                bid 0 1 29 5 3 = 2
                bid 0 1 29 5 0 = 3
                bid 0 1 40 5 0 = 4
                bid 0 1 44 5 0 = 5
                bid 1 1 80 5 0 = 6
                bid 0 2 20 5 0 = 7
                fate 0 = 0
                fate 1 = 2
                fate 2 = 4
                fate 3 = 5
                fate 4 = 7
                fate 5 = 6
                fate 6 = 0
                fate 7 = 0
                fate 8 = UNKNOWN
                fate -1 = UNKNOWN
                fate MOST = UNKNOWN
                setReserve 1 85 = 0
                fate 6 = 8
                fate 4 = 7
                withdrawLot 1 true = 1
                fate 1 = 2
                fate 2 = 3
                fate 6 = 3
                withdrawBid 1 = 1
                fate 1 = 1
                withdrawBid 6 = 1
                fate 6 = 1
                withdrawLot 0 true = 2
                fate 0 = 3
                withdrawLot 1 false = 1
                fate 2 = 5
                fate 4 = 8
                setReserve 1 0 = 85
                fate 4 = 0
                setLimit 0 39 = 1000
                fate 4 = 0
                fate 5 = 6
                fate 7 = 5
                """);
        Script.run("19: an alternative is bought behind", """
                addLot 0 10 0 = 0
                addLot 0 10 0 = 1
                addBidder 1000 = 0
                addBidder 1000 = 1
                bid 0 0 50 5 3 = 0
                bid 0 1 50 5 3 = 1
                bid 1 0 60 5 0 = 2
                fate 0 = 7
                fate 1 = 0
                """);
    }

    private static void promise20() {
        Script.run("20: needed", """
                needed 0 0 5 = UNKNOWN
                addLot 0 12 33 = 0
                needed 0 0 5 = UNKNOWN
                addBidder 1000 = 0
                addBidder 1000 = 1
                addBidder 1000 = 2
                needed 0 0 5 = 35
                needed 0 1 5 = UNKNOWN
                needed 3 0 5 = UNKNOWN
                needed -1 0 5 = UNKNOWN
                needed 0 -1 5 = UNKNOWN
                needed 3 0 -5 = UNKNOWN
                needed 0 0 -1 = BAD_VALUE
                needed 0 0 100001 = BAD_VALUE
                needed 0 0 100000 = NONE
                needed 0 0 50001 = NONE
                needed 0 0 50000 = 35
                bid 1 0 52 10 0 = 0
                needed 0 0 9 = 50
                needed 0 0 10 = 55
                needed 0 0 11 = 55
                needed 1 0 9 = 55
                bid 2 0 50 7 0 = 1
                needed 0 0 6 = 50
                needed 0 0 7 = 55
                needed 0 0 9 = 55
                needed 1 0 6 = 55
                needed 2 0 6 = 55
                bid 0 0 50 6 0 = 2
                needed 0 0 0 = 55
                needed 1 0 5 = 55
                setBand 51 50 = 2
                needed 0 0 0 = 51
                needed 2 0 5 = 51
                needed 0 0 20 = 101
                withdrawLot 0 true = 1
                needed 0 0 0 = NONE
                needed 0 0 -1 = BAD_VALUE
                """);
    }

    private static void promise20Limits() {
        Script.run("20: needed with limits", """
                addLot 0 10 0 = 0
                addLot 0 10 0 = 1
                addBidder 69 = 0
                addBidder 1000 = 1
                bid 0 0 50 5 4 = 0
                bid 1 0 22 5 0 = 1
                bidder 0 1 = 44
                bid 1 1 35 5 0 = 2
                needed 0 1 6 = 40
                needed 0 1 4 = 35
                bid 1 1 40 5 0 = 3
                needed 0 1 6 = NONE
                needed 0 1 4 = 40
                needed 0 0 6 = 55
                bid 0 1 1000 9 4 = 4
                needed 0 1 4 = 40
                withdrawBid 0 = 0
                needed 0 1 4 = NONE
                withdrawBid 4 = 1
                needed 0 1 4 = 40
                needed 0 1 6 = 45
                """);
        Script.run("20: the limit at the turn of the lot", """
                addLot 0 10 0 = 0
                addLot 0 10 0 = 1
                addBidder 60 = 0
                bid 0 1 60 5 0 = 0
                bidder 0 1 = 50
                needed 0 0 5 = 10
                setReserve 0 60 = 0
                needed 0 0 5 = 60
                setReserve 0 61 = 60
                needed 0 0 5 = NONE
                """);
    }

    private static void promise20Zero() {
        Script.run("20: a worth of 0 is enough", """
                addLot 0 0 0 = 0
                addBidder 0 = 0
                addBidder 3 = 1
                addBidder 7 = 2
                needed 0 0 5 = 5
                needed 1 0 5 = 5
                setBand 0 100000 = 1
                needed 0 0 5 = 100000
                setBand 4 9 = 2
                needed 0 0 5 = 4
                bid 1 0 1 5 0 = 0
                fate 0 = 0
                needed 0 0 4 = 4
                needed 0 0 5 = NONE
                needed 1 0 4 = NONE
                needed 2 0 5 = 4
                needed 2 0 4 = 4
                setReserve 0 1 = 0
                needed 0 0 4 = NONE
                needed 2 0 4 = 4
                """);
    }

    private static void promise20None() {
        Script.run("20: an amount is at most 1000000", """
                addLot 0 999999 0 = 0
                addBidder 10000000 = 0
                addBidder 10000000 = 1
                needed 0 0 5 = 1000000
                bid 1 0 1000000 5 0 = 0
                needed 0 0 4 = 1000000
                needed 0 0 5 = NONE
                needed 1 0 4 = NONE
                setBand 0 3 = 1
                bidOf 0 6 = 999999
                needed 0 0 4 = 999999
                needed 0 0 5 = NONE
                """);
        Script.run("20: there are 60 bids", """
                addLot 0 10 0 = 0
                addBidder 1000 = 0
                bid 0 0 10 5 0 = 0 ... 58
                needed 0 0 5 = 15
                bid 0 0 10 5 0 = 59
                needed 0 0 5 = NONE
                withdrawBid 0 = 0
                needed 0 0 5 = NONE
                needed 0 0 -5 = BAD_VALUE
                """);
    }
}
