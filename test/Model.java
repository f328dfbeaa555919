import java.util.ArrayDeque;
import java.util.ArrayList;
import java.util.Comparator;
import java.util.Deque;
import java.util.HashMap;
import java.util.List;
import java.util.Map;
import java.util.Optional;
import java.util.TreeMap;
import java.util.regex.Matcher;
import java.util.regex.Pattern;

/** The document once more, in another way and without a care for speed: what ModelTest compares with. */
public final class Model {
    private static final int UNKNOWN = -1;
    private static final int BAD_VALUE = -2;
    private static final int FULL = -3;
    private static final int NOT_POSSIBLE = -4;
    private static final int NONE = -5;
    private static final long NO_VALUE = Long.MIN_VALUE;

    private record Lot(int seller, int start, int reserve, boolean withdrawn) { }

    private record Bid(int number, int bidder, int lot, int amount, int postmark, int group, boolean withdrawn) { }

    private record Book(TreeMap<Integer, Integer> bands, List<Lot> lots, List<Integer> limits, List<Bid> bids,
            List<Integer> settings) {
        Book copy() {
            return new Book(new TreeMap<>(bands), new ArrayList<>(lots), new ArrayList<>(limits),
                    new ArrayList<>(bids), new ArrayList<>(settings));
        }
    }

    /** How one lot was sold: the order of its bids, the buyer (or NONE) and the price. */
    private record Sold(List<Bid> order, int state, int buyer, int price) { }

    private record Outcome(List<Sold> lots, Map<Integer, Integer> worths, Map<Integer, Integer> fates,
            List<Integer> left) { }

    private Book book = new Book(new TreeMap<>(Map.of(0, 5)), new ArrayList<>(), new ArrayList<>(),
            new ArrayList<>(), new ArrayList<>(List.of(50000, 150, 100, 2)));
    private final Deque<Book> past = new ArrayDeque<>();
    private String text = "";

    private void act() {
        past.addLast(book.copy());
        if (past.size() > 4) {
            past.removeFirst();
        }
    }

    private static boolean in(int value, int least, int most) {
        return least <= value && value <= most;
    }

    // ---- steps

    private boolean isValid(int amount) {
        Map.Entry<Integer, Integer> band = book.bands.floorEntry(amount);
        return (amount - band.getKey()) % band.getValue() == 0;
    }

    private int floorOf(int amount) {
        int floor = amount;
        while (!isValid(floor)) {
            floor--;
        }
        return floor;
    }

    private int ceilingOf(int amount) {
        int ceiling = amount;
        while (!isValid(ceiling)) {
            ceiling++;
        }
        return ceiling;
    }

    public int setBand(int beginning, int step) {
        if (!in(beginning, 0, 1000000) || !in(step, 1, 100000)) {
            return BAD_VALUE;
        }
        if (!book.bands.containsKey(beginning) && book.bands.size() == 8) {
            return FULL;
        }
        act();
        book.bands.put(beginning, step);
        return book.bands.size();
    }

    public int removeBand(int beginning) {
        if (beginning == 0 || !book.bands.containsKey(beginning)) {
            return NOT_POSSIBLE;
        }
        act();
        book.bands.remove(beginning);
        return book.bands.size();
    }

    public int valid(int amount, int what) {
        if (!in(amount, 0, 2000000) || !in(what, 0, 2)) {
            return BAD_VALUE;
        }
        return what == 0 ? floorOf(amount) : what == 1 ? ceilingOf(amount) : ceilingOf(amount + 1);
    }

    // ---- lots, bidders, settings

    public int addLot(int seller, int start, int reserve) {
        if (!in(seller, 0, 4)) {
            return UNKNOWN;
        }
        if (!in(start, 0, 1000000) || !in(reserve, 0, 1000000)) {
            return BAD_VALUE;
        }
        if (book.lots.size() == 20) {
            return FULL;
        }
        act();
        book.lots.add(new Lot(seller, start, reserve, false));
        return book.lots.size() - 1;
    }

    public int setReserve(int lot, int reserve) {
        if (!in(lot, 0, book.lots.size() - 1)) {
            return UNKNOWN;
        }
        if (!in(reserve, 0, 1000000)) {
            return BAD_VALUE;
        }
        act();
        Lot old = book.lots.get(lot);
        book.lots.set(lot, new Lot(old.seller, old.start, reserve, old.withdrawn));
        return old.reserve;
    }

    public int withdrawLot(int lot, boolean withdrawn) {
        if (!in(lot, 0, book.lots.size() - 1)) {
            return UNKNOWN;
        }
        Lot old = book.lots.get(lot);
        if (old.withdrawn == withdrawn) {
            return NOT_POSSIBLE;
        }
        act();
        book.lots.set(lot, new Lot(old.seller, old.start, old.reserve, withdrawn));
        return (int) book.lots.stream().filter(Lot::withdrawn).count();
    }

    public int addBidder(int limit) {
        if (!in(limit, 0, 10000000)) {
            return BAD_VALUE;
        }
        if (book.limits.size() == 8) {
            return FULL;
        }
        act();
        book.limits.add(limit);
        return book.limits.size() - 1;
    }

    public int setLimit(int bidder, int limit) {
        if (!in(bidder, 0, book.limits.size() - 1)) {
            return UNKNOWN;
        }
        if (!in(limit, 0, 10000000)) {
            return BAD_VALUE;
        }
        act();
        return book.limits.set(bidder, limit);
    }

    public int set(int what, int value) {
        if (!in(what, 0, 3)) {
            return UNKNOWN;
        }
        if (!in(value, 0, List.of(100000, 500, 500, 1000).get(what))) {
            return BAD_VALUE;
        }
        act();
        return book.settings.set(what, value);
    }

    // ---- bids

    public int bid(int bidder, int lot, int amount, int postmark, int group) {
        if (!in(bidder, 0, book.limits.size() - 1) || !in(lot, 0, book.lots.size() - 1)) {
            return UNKNOWN;
        }
        if (!in(amount, 1, 1000000) || !in(postmark, 0, 100000) || !in(group, 0, 1000000)) {
            return BAD_VALUE;
        }
        if (book.bids.size() == 60) {
            return FULL;
        }
        act();
        return arrive(bidder, lot, amount, postmark, group);
    }

    private int arrive(int bidder, int lot, int amount, int postmark, int group) {
        int number = book.bids.size();
        book.bids.add(new Bid(number, bidder, lot, amount, postmark, group, false));
        return number;
    }

    public int withdrawBid(int bid) {
        if (!in(bid, 0, book.bids.size() - 1)) {
            return UNKNOWN;
        }
        Bid old = book.bids.get(bid);
        if (old.withdrawn) {
            return NOT_POSSIBLE;
        }
        act();
        book.bids.set(bid, new Bid(bid, old.bidder, old.lot, old.amount, old.postmark, old.group, true));
        return old.lot;
    }

    public int type(char character) {
        if (text.length() == 80) {
            return FULL;
        }
        text += character;
        return text.length();
    }

    public int clearText() {
        int length = text.length();
        text = "";
        return length;
    }

    private static final String LOT = "(0|[1-9][0-9]?)";
    private static final String WHOLE = LOT + "=[1-9][0-9]{0,6}";
    private static final Pattern LETTER = Pattern.compile(WHOLE + "([,/]" + WHOLE + ")*");
    private static final Pattern BEGUN =
            Pattern.compile("(" + WHOLE + "[,/])*(" + LOT + "(=([1-9][0-9]{0,6})?)?)?");
    private static final Pattern NUMBER = Pattern.compile("[0-9]+");

    /** The fault of the text, or -1. */
    private int fault() {
        int good = 0;
        while (good < text.length() && BEGUN.matcher(text.substring(0, good + 1)).matches()) {
            good++;
        }
        Matcher number = NUMBER.matcher(text.substring(0, good));
        while (number.find()) {
            boolean isAmount = number.start() > 0 && text.charAt(number.start() - 1) == '=';
            int value = Integer.parseInt(number.group());
            boolean goesOn = number.end() == good && good < text.length() && "0123456789".indexOf(text.charAt(good)) >= 0;
            if (!goesOn && (isAmount ? value > 1000000 : value >= book.lots.size())) {
                return number.start();
            }
        }
        return LETTER.matcher(text).matches() ? -1 : good;
    }

    public int letter(int bidder, int postmark) {
        if (!in(bidder, 0, book.limits.size() - 1)) {
            return UNKNOWN;
        }
        if (!in(postmark, 0, 100000)) {
            return BAD_VALUE;
        }
        if (fault() >= 0) {
            return -100 - fault();
        }
        int bids = text.split("[,/]").length;
        if (book.bids.size() + bids > 60) {
            return FULL;
        }
        act();
        for (String wish : text.split(",")) {
            int group = 0;
            if (wish.contains("/")) {
                group = 1 + book.bids.stream().filter(b -> b.bidder == bidder).mapToInt(Bid::group).max().orElse(0);
            }
            for (String alternative : wish.split("/")) {
                String[] numbers = alternative.split("=");
                arrive(bidder, Integer.parseInt(numbers[0]), Integer.parseInt(numbers[1]), postmark, group);
            }
        }
        return bids;
    }

    public int undo() {
        if (past.isEmpty()) {
            return NONE;
        }
        book = past.removeLast();
        return past.size();
    }

    // ---- the sale

    private Outcome held() {
        Outcome sale = new Outcome(new ArrayList<>(), new HashMap<>(), new HashMap<>(), new ArrayList<>(book.limits));
        for (int lot = 0; lot < book.lots.size(); lot++) {
            sale.lots.add(sell(lot, sale));
        }
        return sale;
    }

    private Sold sell(int lot, Outcome sale) {
        Lot terms = book.lots.get(lot);
        List<Bid> counting = new ArrayList<>();
        for (Bid bid : book.bids) {
            if (bid.lot == lot) {
                int worth = floorOf(Math.min(bid.amount, sale.left.get(bid.bidder)));
                sale.worths.put(bid.number, worth);
                int reason = bid.withdrawn ? 1 : bid.postmark > book.settings.get(0) ? 2 : terms.withdrawn ? 3
                        : hasBoughtAlternative(bid, sale) ? 4 : worth < ceilingOf(terms.start) ? 5 : 0;
                sale.fates.put(bid.number, reason);
                if (reason == 0) {
                    counting.add(bid);
                }
            }
        }
        Comparator<Bid> greaterWorth = Comparator.comparing((Bid b) -> -sale.worths.get(b.number));
        for (Bid bid : List.copyOf(counting)) {
            Optional<Bid> best = counting.stream().filter(b -> b.bidder == bid.bidder)
                    .min(greaterWorth.thenComparing(Bid::number));
            if (best.get() != bid) {
                sale.fates.put(bid.number, 6);
            }
        }
        counting.removeIf(b -> sale.fates.get(b.number) == 6);
        counting.sort(greaterWorth.thenComparing(Bid::postmark).thenComparing(Bid::number));
        counting.stream().skip(1).forEach(b -> sale.fates.put(b.number, 7));
        return sellTo(counting, terms, sale);
    }

    private boolean hasBoughtAlternative(Bid bid, Outcome sale) {
        return bid.group > 0 && sale.lots.stream().anyMatch(s -> s.buyer == bid.bidder
                && s.order.get(0).group == bid.group);
    }

    private Sold sellTo(List<Bid> order, Lot terms, Outcome sale) {
        if (terms.withdrawn || order.isEmpty()) {
            return new Sold(order, terms.withdrawn ? 3 : 1, NONE, 0);
        }
        Bid first = order.get(0);
        int worth = sale.worths.get(first.number);
        if (worth < terms.reserve) {
            sale.fates.put(first.number, 8);
            return new Sold(order, 2, NONE, 0);
        }
        int price = ceilingOf(Math.max(terms.start, terms.reserve));
        if (order.size() > 1) {
            price = Math.max(price, ceilingOf(sale.worths.get(order.get(1).number) + 1));
        }
        price = Math.min(price, worth);
        sale.left.set(first.bidder, sale.left.get(first.bidder) - price);
        return new Sold(order, 0, first.bidder, price);
    }

    public int sale(int lot, int what) {
        if (!in(lot, 0, book.lots.size() - 1)) {
            return UNKNOWN;
        }
        Sold sold = held().lots.get(lot);
        switch (what) {
            case 0: return sold.buyer;
            case 1: return sold.price;
            case 2: return sold.state;
            case 3: return sold.order.size();
            case 4: return sold.order.isEmpty() ? NONE : sold.order.get(0).number;
            case 5: return sold.order.size() < 2 ? NONE : sold.order.get(1).number;
            default: return BAD_VALUE;
        }
    }

    public int ranked(int lot, int place) {
        if (!in(lot, 0, book.lots.size() - 1)) {
            return UNKNOWN;
        }
        if (place < 0) {
            return BAD_VALUE;
        }
        List<Bid> order = held().lots.get(lot).order;
        return place < order.size() ? order.get(place).number : NONE;
    }

    public int fate(int bid) {
        return in(bid, 0, book.bids.size() - 1) ? held().fates.get(bid) : UNKNOWN;
    }

    public int needed(int bidder, int lot, int postmark) {
        if (!in(bidder, 0, book.limits.size() - 1) || !in(lot, 0, book.lots.size() - 1)) {
            return UNKNOWN;
        }
        if (!in(postmark, 0, 100000)) {
            return BAD_VALUE;
        }
        if (book.bids.size() == 60) {
            return NONE;
        }
        // tried one after the other; above 400 a stretch is skipped if not even its last amount would do
        for (int amount = 1; amount <= 1000000; amount++) {
            while (amount > 400 && amount <= 998000 && !wouldBuy(bidder, lot, amount + 1999, postmark)) {
                amount += 2000;
            }
            if (isValid(amount) && wouldBuy(bidder, lot, amount, postmark)) {
                return amount;
            }
        }
        return NONE;
    }

    private boolean wouldBuy(int bidder, int lot, int amount, int postmark) {
        int number = arrive(bidder, lot, amount, postmark, 0);
        boolean buys = held().fates.get(number) == 0;
        book.bids.remove(number);
        return buys;
    }

    // ---- what is told

    public int lot(int lot, int what) {
        if (!in(lot, 0, book.lots.size() - 1)) {
            return UNKNOWN;
        }
        Lot terms = book.lots.get(lot);
        switch (what) {
            case 0: return terms.seller;
            case 1: return terms.start;
            case 2: return terms.reserve;
            case 3: return terms.withdrawn ? 1 : 0;
            case 4: return ceilingOf(Math.max(terms.start, terms.reserve));
            case 5: return (int) book.bids.stream().filter(b -> b.lot == lot).count();
            default: return BAD_VALUE;
        }
    }

    public int bidOf(int bid, int what) {
        if (!in(bid, 0, book.bids.size() - 1)) {
            return UNKNOWN;
        }
        Bid told = book.bids.get(bid);
        switch (what) {
            case 0: return told.lot;
            case 1: return told.bidder;
            case 2: return told.amount;
            case 3: return told.postmark;
            case 4: return told.group;
            case 5: return told.withdrawn ? 1 : 0;
            case 6: return held().worths.get(bid);
            default: return BAD_VALUE;
        }
    }

    private int share(int price, int setting) {
        return (int) (price * (long) book.settings.get(setting) / 1000);
    }

    public int bidder(int bidder, int what) {
        if (!in(bidder, 0, book.limits.size() - 1)) {
            return UNKNOWN;
        }
        Outcome sale = held();
        List<Sold> bought = sale.lots.stream().filter(s -> s.buyer == bidder).toList();
        switch (what) {
            case 0: return book.limits.get(bidder);
            case 1: return sale.left.get(bidder);
            case 2: return bought.size();
            case 3: return bought.stream().mapToInt(s -> s.price + share(s.price, 1)).sum();
            default: return BAD_VALUE;
        }
    }

    public long seller(int seller, int what) {
        if (!in(seller, 0, 4) || !in(what, 0, 3)) {
            return NO_VALUE;
        }
        Outcome sale = held();
        long[] sums = new long[4];
        for (int lot = 0; lot < book.lots.size(); lot++) {
            if (book.lots.get(lot).seller == seller) {
                Sold sold = sale.lots.get(lot);
                sums[0]++;
                sums[1] += sold.state == 0 ? 1 : 0;
                sums[2] += sold.price;
                sums[3] += sold.price - share(sold.price, 2);
                sums[3] -= sold.state == 1 || sold.state == 2 ? book.settings.get(3) : 0;
            }
        }
        return sums[what];
    }

    public long account(int what) {
        if (!in(what, 0, 6)) {
            return NO_VALUE;
        }
        long prices = 0;
        long premiums = 0;
        long commissions = 0;
        long fees = 0;
        for (Sold sold : held().lots) {
            prices += sold.price;
            premiums += share(sold.price, 1);
            commissions += share(sold.price, 2);
            fees += sold.state == 1 || sold.state == 2 ? book.settings.get(3) : 0;
        }
        return List.of(prices, premiums, commissions, fees, prices + premiums, prices - commissions - fees,
                premiums + commissions + fees).get(what);
    }

    public int count(int what) {
        switch (what) {
            case 0: return book.lots.size();
            case 1: return book.limits.size();
            case 2: return book.bids.size();
            case 3: return (int) held().lots.stream().filter(s -> s.state == 0).count();
            case 4: return (int) book.lots.stream().filter(Lot::withdrawn).count();
            case 5: return (int) book.bids.stream().filter(b -> b.postmark > book.settings.get(0)).count();
            case 6: return (int) book.bids.stream().filter(Bid::withdrawn).count();
            case 7: return book.bands.size();
            case 8: case 9: case 10: case 11: return book.settings.get(what - 8);
            case 12: return past.size();
            case 13: return text.length();
            default: return BAD_VALUE;
        }
    }
}
