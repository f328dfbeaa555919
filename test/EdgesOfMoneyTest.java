/** The boundaries of 'Money' and of the promises 23 to 25. */
public final class EdgesOfMoneyTest {
    /** Steps of 1, so that each amount is a price. */
    private static final String SOME = """
            setBand 0 1 = 1
            addLot 0 1 0 = 0
            addLot 1 1 0 = 1
            addBidder 3000000 = 0
            addBidder 3000000 = 1
            """;

    public static void main(String[] args) {
        premiums();
        commissions();
        roundedForEachLot();
        rates();
        fees();
        feesOfSellers();
        balances();
        sellers();
        bidders();
        whats();
        greatest();
        Script.end("EdgesOfMoneyTest");
    }

    private static String price(String price) {
        return SOME + "setReserve 0 " + price + " = 0\n bid 0 0 " + price + " 5 0 = 0\n sale 0 1 = " + price + "\n";
    }

    private static void premiums() {
        String[][] rows = {
            {"1", "150", "0"}, {"6", "150", "0"}, {"7", "150", "1"}, {"13", "150", "1"}, {"14", "150", "2"},
            {"999", "1", "0"}, {"1000", "1", "1"}, {"1001", "1", "1"}, {"1999", "1", "1"}, {"2000", "1", "2"},
            {"1", "500", "0"}, {"2", "500", "1"}, {"3", "500", "1"}, {"1000000", "500", "500000"},
            {"999999", "500", "499999"}, {"1000000", "499", "499000"}, {"1000000", "0", "0"}, {"1000000", "1", "1000"}
        };
        for (String[] row : rows) {
            Script.run("Money: a premium, price * premium rate / 1000 [" + row[0] + " * " + row[1] + "]", price(row[0])
                    + "set 2 0 = 100\n set 1 " + row[1] + " = 150\n account 0 = " + row[0] + "\n account 1 = " + row[2]
                    + "\n bidder 0 3 = " + row[0] + "+" + row[2] + "\n account 4 = " + row[0] + "+" + row[2]
                    + "\n seller 0 3 = " + row[0] + "\n account 2 = 0\n bidder 1 3 = 0");
        }
    }

    private static void commissions() {
        String[][] rows = {
            {"1", "100", "0"}, {"9", "100", "0"}, {"10", "100", "1"}, {"11", "100", "1"}, {"19", "100", "1"},
            {"20", "100", "2"}, {"999", "1", "0"}, {"1000", "1", "1"}, {"1001", "1", "1"}, {"1", "500", "0"},
            {"2", "500", "1"}, {"1000000", "500", "500000"}, {"999999", "500", "499999"}, {"1000000", "499", "499000"},
            {"1000000", "0", "0"}, {"1000000", "1", "1000"}
        };
        for (String[] row : rows) {
            Script.run("Money: a commission, price * commission rate / 1000 [" + row[0] + " * " + row[1] + "]",
                    price(row[0]) + "set 1 0 = 150\n set 3 0 = 2\n set 2 " + row[1] + " = 100\n account 0 = " + row[0]
                    + "\n account 2 = " + row[2] + "\n seller 0 3 = " + row[0] + "-" + row[2] + "\n account 5 = " + row[0]
                    + "-" + row[2] + "\n bidder 0 3 = " + row[0] + "\n account 1 = 0\n seller 0 2 = " + row[0]);
        }
    }

    private static void roundedForEachLot() {
        Script.run("Money: price * rate / 1000, rounded down [of each lot, not of the sum]", """
                setBand 0 1 = 1
                addLot 0 9 0 = 0 ... 9
                addBidder 1000 = 0
                say 0=9,1=9,2=9,3=9,4=9,5=9,6=9,7=9,8=9,9=9
                letter 0 5 = 10
                set 1 111 = 150
                account 0 = 90
                account 1 = 0
                account 2 = 0
                bidder 0 3 = 90
                seller 0 3 = 90
                set 1 112 = 111
                account 1 = 10
                bidder 0 3 = 100
                set 2 112 = 100
                account 2 = 10
                seller 0 3 = 80
                """);
    }

    private static void rates() {
        Script.run("Money: The rates are 0 to 500 (at first 150 for the premium, 100 for the commission)", price("1000") + """
                account 1 = 150
                account 2 = 100
                set 1 149 = 150
                account 1 = 149
                set 1 151 = 149
                account 1 = 151
                set 2 99 = 100
                account 2 = 99
                set 2 101 = 99
                account 2 = 101
                set 1 500 = 151
                set 2 500 = 101
                account 1 = 500
                account 2 = 500
                set 1 0 = 500
                set 2 0 = 500
                account 1 = 0
                account 2 = 0
                """);
    }

    private static void fees() {
        Script.run("Money: For each lot that is not withdrawn and not sold, the seller pays a fee", """
                addLot 0 10 0 = 0
                addLot 0 10 90 = 1
                addLot 0 10 0 = 2
                addLot 0 10 0 = 3
                addBidder 1000 = 0
                bid 0 0 30 5 0 = 0
                bid 0 1 30 5 0 = 1
                bid 0 3 9 5 0 = 2
                account 3 = 6
                seller 0 3 = 3
                withdrawLot 2 true = 1
                account 3 = 4
                seller 0 3 = 5
                withdrawLot 0 true = 2
                account 3 = 4
                seller 0 3 = -4
                withdrawLot 1 true = 3
                account 3 = 2
                withdrawLot 3 true = 4
                account 3 = 0
                seller 0 3 = 0
                seller 0 0 = 4
                withdrawLot 3 false = 3
                setReserve 3 500 = 0
                account 3 = 2
                """);
        Script.each("Money: the fee is 0 to 1000 (at first 2)", "0 1 999 1000", """
                addLot 0 10 0 = 0
                addLot 0 10 0 = 1
                account 3 = 4
                set 3 # = 2
                account 3 = #+#
                seller 0 3 = 0-#-#
                account 5 = 0-#-#
                account 6 = #+#
                """);
    }

    private static void feesOfSellers() {
        Script.run("Money: the seller pays a fee [each for the own lots]", """
                addLot 0 10 0 = 0
                addLot 4 10 0 = 1
                addLot 4 10 0 = 2
                addLot 2 10 0 = 3
                addBidder 1000 = 0
                bid 0 3 30 5 0 = 0
                seller 0 3 = -2
                seller 1 3 = 0
                seller 2 3 = 9
                seller 3 3 = 0
                seller 4 3 = -4
                account 3 = 6
                account 5 = 3
                """);
    }

    private static void balances() {
        Script.run("Money: The house keeps what the buyers pay less what the sellers get", SOME + """
                addLot 4 1 0 = 2
                bid 0 0 77 5 0 = 0
                bid 1 0 66 5 0 = 1
                bid 1 1 40 5 0 = 2
                bid 0 1 33 5 0 = 3
                account 0 = 101
                account 1 = 15
                account 2 = 9
                account 3 = 2
                account 4 = 116
                account 5 = 90
                account 6 = 26
                bidder 0 3 = 77
                bidder 1 3 = 39
                seller 0 3 = 61
                seller 1 3 = 31
                seller 4 3 = -2
                """);
        Script.run("Money: The house keeps what the buyers pay less what the sellers get [no lots, or none sold]", """
                account 6 = 0
                addLot 0 10 0 = 0
                account 6 = 2
                withdrawLot 0 true = 1
                account 6 = 0
                """);
    }

    private static void sellers() {
        Script.run("Promise 24: 0 for the number of lots, 1 for those that are sold, 2 for their prices", """
                addLot 3 10 0 = 0
                addLot 3 10 0 = 1
                addLot 3 10 50 = 2
                addLot 3 10 0 = 3
                addLot 2 10 0 = 4
                addBidder 1000 = 0
                bid 0 0 20 5 0 = 0
                bid 0 1 20 5 0 = 1
                bid 0 2 20 5 0 = 2
                bid 0 4 20 5 0 = 3
                withdrawLot 1 true = 1
                seller 3 0 = 4
                seller 3 1 = 1
                seller 3 2 = 10
                seller 3 3 = 5
                seller 2 0 = 1
                seller 2 1 = 1
                seller 2 2 = 10
                seller 2 3 = 9
                withdrawLot 1 false = 0
                seller 3 0 = 4
                seller 3 1 = 2
                seller 3 2 = 20
                seller 3 3 = 14
                """);
        Script.run("Promise 24: Returns the number; NO_VALUE [a seller without lots]", """
                addLot 3 10 0 = 0
                seller 4 0 = 0
                seller 4 1 = 0
                seller 4 2 = 0
                seller 4 3 = 0
                """);
    }

    private static void bidders() {
        String bid = "addBidder 30 = 0\n addLot 0 # 0 = 0\n bid 0 0 30 5 0 = 0\n";
        Script.each("Promise 23: 0 for the limit, 1 for what is left of it behind the sale", "0 5 25 30", bid + """
                bidder 0 0 = 30
                bidder 0 1 = 30-#
                bidder 0 2 = 1
                """);
        Script.each("Promise 23: 1 for what is left of it behind the sale, 2 for the number of lots [none]", "31 35", bid + """
                bidder 0 0 = 30
                bidder 0 1 = 30
                bidder 0 2 = 0
                bidder 0 3 = 0
                """);
        Script.run("Promise 23: 2 for the number of lots that are bought [not only bid for]", SOME + """
                bid 0 0 30 5 0 = 0
                bid 0 1 30 5 0 = 1
                bid 1 1 40 5 0 = 2
                bidder 0 2 = 1
                bidder 1 2 = 1
                setReserve 1 41 = 0
                bidder 1 2 = 0
                withdrawLot 0 true = 1
                bidder 0 2 = 0
                bidder 0 1 = 3000000
                """);
        Script.run("Promise 23: 3 for what is paid with premiums [a price of 0 is a lot that is bought]", """
                addLot 0 0 0 = 0
                addBidder 0 = 0
                bid 0 0 1 5 0 = 0
                bidder 0 0 = 0
                bidder 0 1 = 0
                bidder 0 2 = 1
                bidder 0 3 = 0
                seller 0 1 = 1
                seller 0 3 = 0
                account 3 = 0
                count 3 = 1
                """);
    }

    private static void whats() {
        Script.each("Promise 23: Returns the number; UNKNOWN; BAD_VALUE [in this order]", "-1 4 LEAST MOST", SOME + """
                bidder 0 # = BAD_VALUE
                bidder 1 # = BAD_VALUE
                bidder 2 # = UNKNOWN
                bidder -1 # = UNKNOWN
                """);
        Script.each("Promise 24: Returns the number; NO_VALUE", "-1 4 LEAST MOST", SOME + """
                seller 0 # = NO_VALUE
                seller 4 # = NO_VALUE
                seller 5 # = NO_VALUE
                seller -1 # = NO_VALUE
                """);
        Script.each("Promise 25: Returns the account; NO_VALUE", "-1 7 LEAST MOST", SOME + "account # = NO_VALUE");
        Script.run("Promise 23 and 24 and 25: the last ones that are told", SOME + """
                seller 0 3 = -2
                seller 1 3 = -2
                account 6 = 4
                bidder 0 3 = 0
                """);
    }

    private static void greatest() {
        Script.run("Terms: Nothing overflows [twenty lots at the greatest price]", """
                addLot 4 1000000 0 = 0 ... 19
                addBidder 10000000 = 0
                addBidder 10000000 = 1
                set 1 500 = 150
                set 2 500 = 100
                say 0=1000000,1=1000000,2=1000000,3=1000000,4=1000000,5=1000000,6=1000000
                letter 0 5 = 7
                say 7=1000000,8=1000000,9=1000000
                letter 0 5 = 3
                say 10=1000000,11=1000000,12=1000000,13=1000000,14=1000000,15=1000000
                letter 1 5 = 6
                say 16=1000000,17=1000000,18=1000000,19=1000000
                letter 1 5 = 4
                count 3 = 20
                account 0 = 20000000
                account 1 = 10000000
                account 2 = 10000000
                account 3 = 0
                account 4 = 30000000
                account 5 = 10000000
                account 6 = 20000000
                bidder 0 1 = 0
                bidder 0 2 = 10
                bidder 0 3 = 15000000
                seller 4 1 = 20
                seller 4 2 = 20000000
                seller 4 3 = 10000000
                bid 0 19 1000000 4 0 = 20
                fate 20 = 5
                bidOf 20 6 = 0
                """);
    }
}
