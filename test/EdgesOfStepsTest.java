/** The boundaries of 'Steps' and of the promises 2 to 4; each title quotes the sentence whose boundary is tested. */
public final class EdgesOfStepsTest {
    private static final String FULL_TABLE = """
            setBand 10 4 = 2
            setBand 20 3 = 3
            setBand 30 6 = 4
            setBand 40 9 = 5
            setBand 50 7 = 6
            setBand 60 2 = 7
            setBand 70 8 = 8
            """;

    public static void main(String[] args) {
        firstTable();
        fullTable();
        ranges();
        inPlace();
        removed();
        bandOfAnAmount();
        validAmounts();
        nextAmounts();
        amountsAndWhats();
        greatNumbers();
        Script.end("EdgesOfStepsTest");
    }

    private static void firstTable() {
        Script.run("Steps: one band always begins at 0, at first with the step 5 and alone", """
                count 7 = 1
                valid 0 2 = 5
                valid 4 2 = 5
                valid 5 2 = 10
                valid 999999 2 = 1000000
                valid 1999996 0 = 1999995
                """);
        Script.run("Steps: one band always begins at 0 [it is alone]", """
                removeBand 0 = NOT_POSSIBLE
                count 7 = 1
                valid 4 2 = 5
                """);
        Script.run("Steps: one band always begins at 0 [with another step]", """
                setBand 0 9 = 1
                removeBand 0 = NOT_POSSIBLE
                valid 0 2 = 9
                """);
        Script.run("Steps: one band always begins at 0 [the table is full]", FULL_TABLE + """
                removeBand 0 = NOT_POSSIBLE
                count 7 = 8
                valid 9 0 = 5
                """);
    }

    private static void fullTable() {
        Script.run("Promise 2: FULL if there would be more than 8", FULL_TABLE.replace("setBand 70 8 = 8", "") + """
                count 7 = 7
                setBand 80 5 = 8
                count 7 = 8
                setBand 90 5 = FULL
                count 7 = 8
                valid 89 2 = 90
                valid 90 2 = 95
                """);
        Script.each("Promise 2: FULL if there would be more than 8", "1 5 9 11 19 21 39 41 69 71 999999 1000000",
                FULL_TABLE + """
                setBand # 1 = FULL
                count 7 = 8
                """);
        Script.each("Promise 2: FULL if there would be more than 8 [not in place of one]", "0 10 20 30 40 50 60 70",
                FULL_TABLE + """
                setBand # 2 = 8
                count 7 = 8
                valid # 2 = #+2
                valid #+9 0 = #+8
                """);
        Script.each("Promise 3: Returns the number of bands then [there is room again]", "10 40 70", FULL_TABLE + """
                setBand 80 1 = FULL
                removeBand # = 7
                setBand 80 6 = 8
                valid 80 2 = 86
                setBand # 1 = FULL
                """);
    }

    private static void ranges() {
        Script.range("Promise 2: `step`: 1 to 100000", 1, 100000, """
                setBand 0 # = 1
                valid 0 2 = #
                valid # 2 = #+#
                valid #-1 0 = 0
                """, "setBand 0 # = BAD_VALUE\n valid 0 2 = 5");
        Script.range("Promise 2: `step`: 1 to 100000 [of a further band]", 1, 100000, """
                setBand 600000 # = 2
                valid 600000 2 = 600000+#
                """, "setBand 600000 # = BAD_VALUE\n count 7 = 1");
        Script.range("Promise 2: `beginning`: 0 to 1000000", 0, 1000000, "setBand # 7 *1\n valid # 2 = #+7\n valid # 1 = #",
                "setBand # 7 = BAD_VALUE\n count 7 = 1\n valid 1000001 2 = 1000005");
        Script.each("Promise 2: Returns the number of bands then", "1 2 999999 1000000", """
                setBand # 7 = 2
                valid #-1 2 = #
                removeBand # = 1
                """);
        Script.run("Promise 2: Returns the number of bands then [the band at 0]", """
                setBand 0 7 = 1
                valid 0 2 = 7
                """);
    }

    private static void inPlace() {
        Script.run("Promise 2: in place of one with this beginning", """
                setBand 50 7 = 2
                setBand 50 8 = 2
                valid 50 2 = 58
                setBand 49 9 = 3
                setBand 51 6 = 4
                valid 49 2 = 50
                valid 50 2 = 51
                valid 51 2 = 57
                removeBand 51 = 3
                valid 50 2 = 58
                """);
        Script.run("Promise 2: in place of one with this beginning [it is as it was]", """
                setBand 50 7 = 2
                setBand 50 7 = 2
                count 12 = 2
                undo = 1
                count 7 = 2
                undo = 0
                count 7 = 1
                """);
    }

    private static void removed() {
        Script.each("Promise 3: NOT_POSSIBLE if there is no such band", "-1 1 5 49 51 1000000 1000001 LEAST MOST", """
                setBand 50 7 = 2
                removeBand # = NOT_POSSIBLE
                count 7 = 2
                """);
        Script.run("Promise 3: NOT_POSSIBLE if there is no such band [any more]", """
                setBand 50 7 = 2
                removeBand 50 = 1
                removeBand 50 = NOT_POSSIBLE
                undo = 1
                removeBand 50 = 1
                """);
        Script.run("Promise 3: NOT_POSSIBLE if it begins at 0, also beside others", """
                setBand 50 7 = 2
                removeBand 0 = NOT_POSSIBLE
                valid 49 0 = 45
                """);
        Script.each("Promise 3: `beginning`: the beginning of the band", "10 20 30 40 50 60 70", FULL_TABLE + """
                removeBand # = 7
                count 7 = 7
                removeBand # = NOT_POSSIBLE
                setBand # 1 = 8
                valid #+8 2 = #+9
                valid #+9 2 = #+10
                """);
        Script.run("Promise 3: Removes a band [its amounts belong to the band below it]", FULL_TABLE + """
                removeBand 30 = 7
                valid 30 0 = 29
                valid 39 0 = 38
                valid 40 0 = 40
                removeBand 20 = 6
                valid 20 0 = 18
                valid 39 0 = 38
                removeBand 10 = 5
                valid 19 0 = 15
                valid 39 0 = 35
                removeBand 70 = 4
                valid 75 0 = 74
                removeBand 50 = 3
                valid 59 0 = 58
                removeBand 40 = 2
                valid 59 0 = 55
                removeBand 60 = 1
                valid 74 0 = 70
                """);
        othersStay();
    }

    private static void othersStay() {
        int[] steps = {5, 4, 3, 6, 9, 7, 2, 8};
        for (int removed = 1; removed < 8; removed++) {
            StringBuilder told = new StringBuilder();
            for (int band = 0; band < 8; band++) {
                if (band != removed) {
                    told.append("valid ").append(10 * band).append(" 0 = ").append(10 * band).append('\n');
                    told.append("valid ").append(10 * band).append(" 2 = ").append(10 * band + steps[band]).append('\n');
                }
            }
            Script.run("Promise 3: Removes a band [not another one]", FULL_TABLE + told + "removeBand " + removed * 10
                    + " = 7\n" + told + "undo = 3\n" + told + "valid " + removed * 10 + " 2 = "
                    + (removed * 10 + steps[removed]) + "\n" + "setBand " + removed * 10 + " 1 = 8\n" + told);
        }
    }

    private static void bandOfAnAmount() {
        String bands = "the band with the greatest beginning that is not above it";
        Script.run("Steps: " + bands, """
                setBand 101 7 = 2
                valid 99 0 = 95
                valid 100 0 = 100
                valid 101 0 = 101
                valid 102 0 = 101
                valid 107 0 = 101
                valid 108 0 = 108
                """);
        Script.run("Steps: " + bands + " [set from below]", """
                setBand 101 7 = 2
                setBand 202 11 = 3
                setBand 303 13 = 4
                valid 201 0 = 199
                valid 202 0 = 202
                valid 302 0 = 301
                valid 303 0 = 303
                valid 315 0 = 303
                """);
        Script.run("Steps: " + bands + " [set from above]", """
                setBand 303 13 = 2
                setBand 202 11 = 3
                setBand 101 7 = 4
                valid 100 0 = 100
                valid 201 0 = 199
                valid 202 0 = 202
                valid 302 0 = 301
                valid 315 0 = 303
                valid 316 0 = 316
                """);
        Script.run("Steps: " + bands + " [neighbours]", """
                setBand 7 50 = 2
                setBand 8 60 = 3
                setBand 6 70 = 4
                valid 5 2 = 6
                valid 6 2 = 7
                valid 7 2 = 8
                valid 8 2 = 68
                """);
    }

    private static void validAmounts() {
        Script.run("Steps: the beginning of its band plus a multiple of its step", """
                setBand 7 3 = 2
                valid 5 1 = 5
                valid 6 1 = 7
                valid 7 1 = 7
                valid 8 1 = 10
                valid 9 1 = 10
                valid 10 1 = 10
                valid 11 1 = 13
                """);
        Script.run("Steps: The floor of an amount is the greatest valid amount that is not above it", """
                setBand 12 7 = 2
                valid 0 0 = 0
                valid 1 0 = 0
                valid 9 0 = 5
                valid 10 0 = 10
                valid 11 0 = 10
                valid 12 0 = 12
                valid 13 0 = 12
                valid 18 0 = 12
                valid 19 0 = 19
                valid 20 0 = 19
                """);
        Script.run("Steps: its ceiling is the least valid amount that is not below it", """
                setBand 12 7 = 2
                valid 0 1 = 0
                valid 1 1 = 5
                valid 9 1 = 10
                valid 10 1 = 10
                valid 11 1 = 12
                valid 12 1 = 12
                valid 13 1 = 19
                valid 18 1 = 19
                valid 19 1 = 19
                valid 20 1 = 26
                """);
    }

    private static void nextAmounts() {
        Script.run("Steps: the next one is the least valid amount above it", """
                setBand 12 7 = 2
                valid 0 2 = 5
                valid 1 2 = 5
                valid 9 2 = 10
                valid 10 2 = 12
                valid 11 2 = 12
                valid 12 2 = 19
                valid 18 2 = 19
                valid 19 2 = 26
                """);
        Script.run("Steps: the next one [the step ends where the next band begins]", """
                setBand 20 7 = 2
                valid 15 2 = 20
                valid 19 1 = 20
                valid 19 2 = 20
                valid 20 2 = 27
                """);
        Script.run("Steps: the next one [a band begins one above or one below the step's end]", """
                setBand 21 7 = 2
                valid 15 2 = 20
                valid 20 2 = 21
                valid 21 2 = 28
                setBand 19 9 = 3
                valid 15 2 = 19
                valid 19 2 = 21
                """);
        Script.run("Steps: the next one [several bands begin within a step, set from above]", """
                setBand 0 100 = 1
                setBand 50 100 = 2
                setBand 40 100 = 3
                setBand 30 100 = 4
                valid 0 2 = 30
                valid 29 1 = 30
                valid 30 2 = 40
                valid 45 1 = 50
                valid 50 2 = 150
                valid 49 0 = 40
                """);
        Script.run("Steps: the next one [several bands begin within a step, set from below]", """
                setBand 0 100 = 1
                setBand 30 100 = 2
                setBand 40 100 = 3
                setBand 50 100 = 4
                valid 0 2 = 30
                valid 29 1 = 30
                valid 30 2 = 40
                valid 45 1 = 50
                """);
    }

    private static void amountsAndWhats() {
        Script.range("Promise 4: `amount`: 0 to 2000000 [its floor]", 0, 2000000, "setBand 0 1 = 1\n valid # 0 = #",
                "valid # 0 = BAD_VALUE");
        Script.range("Promise 4: `amount`: 0 to 2000000 [its ceiling]", 0, 2000000, "setBand 0 1 = 1\n valid # 1 = #",
                "valid # 1 = BAD_VALUE");
        Script.range("Promise 4: `amount`: 0 to 2000000 [the next one]", 0, 2000000, "setBand 0 1 = 1\n valid # 2 = #+1",
                "valid # 2 = BAD_VALUE");
        Script.run("Promise 4: 0 for its floor, 1 for its ceiling, 2 for the next one", """
                valid 7 0 = 5
                valid 7 1 = 10
                valid 10 1 = 10
                valid 10 2 = 15
                """);
        Script.each("Promise 4: 0 for its floor, 1 for its ceiling, 2 for the next one [nothing else]",
                "-1 3 LEAST MOST", "valid 7 # = BAD_VALUE\n valid 10 # = BAD_VALUE\n valid -1 # = BAD_VALUE");
    }

    private static void greatNumbers() {
        Script.run("Terms: Nothing overflows [the greatest steps]", """
                setBand 1000000 100000 = 2
                valid 999999 2 = 1000000
                valid 1000001 0 = 1000000
                valid 1000001 1 = 1100000
                valid 1999999 0 = 1900000
                valid 2000000 0 = 2000000
                valid 2000000 1 = 2000000
                valid 2000000 2 = 2100000
                setBand 999999 100000 = 3
                removeBand 1000000 = 2
                valid 2000000 0 = 1999999
                valid 2000000 1 = 2099999
                """);
    }
}
