/** A table of guests who bring remarks, the evenings it has, and what would be if it were otherwise. */
public final class CorkageOnRemarks {
  private static final int NOBODY = -1;
  private static final int OTHER = -2;
  private static final int STATE = -3;
  private static final int BELOW = -4;
  private static final int ROOM = -6;
  private static final int NONE = -9;

  private static final int MAX_GUESTS = 6;
  private static final int MAX_REMARKS = 7;
  private static final int MAX_LETTERS = 96;
  private static final int MAX_ROW = 12;
  private static final int MAX_WAITERS = 3;
  private static final int MAX_LIKES = 255;
  private static final int MAX_MOOD = 40;
  private static final int MAX_READY = 59;
  private static final int TOPICS = 8;
  private static final int END = 60;

  private static final int REMARK = 0;
  private static final int WITTY = 1;
  private static final int DULL = 2;
  private static final int PROPOSAL = 3;
  private static final int CRUSTED = 4;
  private static final int HOUSE = 5;
  private static final int KINDS = 6;

  private final Table now = new Table();
  private final Table kept = new Table();
  private boolean isKept = false;
  private final Letters letters = new Letters();
  private final int[] told = new int[MAX_ROW];
  private int toldSize = 0;
  private final int[] refusals = new int[7];
  private final Trials trials = new Trials();
  private final Shares shares = new Shares();

  public CorkageOnRemarks() {
  }

  public int letter(int c) {
    if (c < 0) {
      return refuse(BELOW);
    }
    if (c > 255 || letters.size >= MAX_LETTERS) {
      return refuse(ROOM);
    }
    letters.add(c);
    return letters.size;
  }

  public int table() {
    int answer = become();
    letters.size = 0;
    return answer;
  }

  public int guest(int guest, int what) {
    if (!now.hasGuest(guest)) {
      return refuse(NOBODY);
    }
    switch (what) {
      case 0:
        return now.likes[guest];
      case 1:
        return now.moods[guest];
      default:
        return refuse(OTHER);
    }
  }

  public int remark(int remark, int what) {
    if (!now.hasRemark(remark)) {
      return refuse(NOBODY);
    }
    switch (what) {
      case 0:
        return now.kinds[remark];
      case 1:
        return now.figures[remark];
      case 2:
        return now.bringers[remark];
      case 3:
        return now.topics[remark];
      case 4:
        return now.readies[remark];
      case 5:
        return now.minutesFor(remark);
      case 6:
        return now.priceOf(remark);
      case 7:
        return now.hearersOf(remark);
      default:
        return refuse(OTHER);
    }
  }

  public int ready(int remark, int v) {
    if (!now.hasRemark(remark)) {
      return refuse(NOBODY);
    }
    if (v < 0) {
      return refuse(BELOW);
    }
    if (v > MAX_READY) {
      return refuse(ROOM);
    }
    int before = now.readies[remark];
    now.readies[remark] = v;
    return before;
  }

  public int mood(int guest, int v) {
    if (!now.hasGuest(guest)) {
      return refuse(NOBODY);
    }
    if (v < 0) {
      return refuse(BELOW);
    }
    if (v > MAX_MOOD) {
      return refuse(ROOM);
    }
    int before = now.moods[guest];
    now.moods[guest] = v;
    return before;
  }

  public int change(int one, int other) {
    if (!now.changeSeats(one, other)) {
      return refuse(NOBODY);
    }
    return now.likes[one];
  }

  public int set(int what, int v) {
    if (what != 0 && what != 1) {
      return refuse(OTHER);
    }
    if (v < (what == 0 ? 1 : 0)) {
      return refuse(BELOW);
    }
    if (v > (what == 0 ? MAX_WAITERS : 9)) {
      return refuse(ROOM);
    }
    int before = what == 0 ? now.waiters : now.corkage;
    if (what == 0) {
      now.waiters = v;
    } else {
      now.corkage = v;
    }
    return before;
  }

  public int sums(int what) {
    if (what < 0 || what > 4) {
      return refuse(OTHER);
    }
    Evening evening = eveningNow();
    switch (what) {
      case 0:
        return evening.moodsTogether();
      case 1:
        return evening.wholeBill();
      case 2:
        return evening.openedBy(END);
      case 3:
        return evening.howManySentBack();
      default:
        return evening.lastOpening();
    }
  }

  public int of(int remark, int what) {
    if (!now.hasRemark(remark)) {
      return refuse(NOBODY);
    }
    if (what < 0 || what > 2) {
      return refuse(OTHER);
    }
    Evening evening = eveningNow();
    switch (what) {
      case 0:
        return evening.taken[remark];
      case 1:
        return evening.opened[remark];
      default:
        return evening.sentBack[remark] ? 1 : 0;
    }
  }

  public int moodAt(int guest, int minute) {
    if (!now.hasGuest(guest)) {
      return refuse(NOBODY);
    }
    if (minute < 0) {
      return refuse(BELOW);
    }
    if (minute > END) {
      return refuse(ROOM);
    }
    return trials.moodBehind(now, guest, minute);
  }

  public int bill(int guest) {
    if (!now.hasGuest(guest)) {
      return refuse(NOBODY);
    }
    return eveningNow().billOf(guest);
  }

  public int without(int remark) {
    if (!now.hasRemark(remark)) {
      return 1000000000 - refuse(NOBODY);
    }
    return trials.moreWithout(now, remark);
  }

  public int bestMinute(int remark) {
    if (!now.hasRemark(remark)) {
      return refuse(NOBODY);
    }
    return trials.minuteOfMostMoods(now, remark);
  }

  public int enough() {
    return trials.leastWaiters(now);
  }

  public int swap() {
    return trials.seatsOfMostMoods(now);
  }

  public int fit() {
    return trials.bringerOfMostMoods(now);
  }

  public int could(int what) {
    if (what != 0 && what != 1) {
      return refuse(OTHER);
    }
    int most = now.mostLikers();
    return what == 0 ? now.topicsLikedBy(most) : most;
  }

  public int dear() {
    return now.dearest();
  }

  public int spare(int what) {
    if (what != 0 && what != 1) {
      return refuse(OTHER);
    }
    int left = trials.leftSoNothingIsSentBack(now);
    return what == 0 ? left : Integer.bitCount(left);
  }

  public int cold() {
    return trials.leftForMostMoods(now);
  }

  public int silence(int what) {
    if (what != 0 && what != 1) {
      return refuse(OTHER);
    }
    Evening evening = eveningNow();
    int longest = evening.longestSilence();
    return what == 0 ? longest : evening.startOfSilence(longest);
  }

  public int busy(int what) {
    if (what != 0 && what != 1) {
      return refuse(OTHER);
    }
    return eveningNow().minutesWithBusy(what == 0 ? 1 : now.waiters);
  }

  public int who(int guest, int remark, int what) {
    if (!now.hasGuest(guest) || !now.hasRemark(remark)) {
      return refuse(NOBODY);
    }
    if (what != 0 && what != 1) {
      return refuse(OTHER);
    }
    return what == 0 ? kindsAsTold(guest, remark) : topicsAsTold(guest, remark);
  }

  public int haggle(int a, int b) {
    if (!now.hasTwo(a, b)) {
      return refuse(NOBODY);
    }
    return trials.firstSettledPair(now, a, b);
  }

  public int payments() {
    return shares.fewestPayments(now.guests, eveningNow());
  }

  public long odds(int t, int v, int part) {
    if (t < 2 || v < 0) {
      return refuseLong(BELOW);
    }
    if (t > 20 || v > MAX_GUESTS * MAX_MOOD) {
      return refuseLong(ROOM);
    }
    if (part != 0 && part != 1) {
      return refuseLong(OTHER);
    }
    long above = trials.waysToReach(now, t, v);
    long below = power(t, now.remarks);
    long common = Math.max(1, greatestDivisor(above, below));
    return (part == 0 ? above : below) / common;
  }

  public int row(int v) {
    if (v < 0) {
      return refuse(BELOW);
    }
    if (v > 99 || toldSize >= told.length) {
      return refuse(ROOM);
    }
    told[toldSize] = v;
    toldSize++;
    return toldSize;
  }

  public int judge() {
    int answer = firstUntrue(eveningNow());
    toldSize = 0;
    return answer;
  }

  public int clear() {
    int had = toldSize;
    toldSize = 0;
    return had;
  }

  public int lots(int n, int z, int what) {
    if (n < 1) {
      return refuse(BELOW);
    }
    if (n > 20) {
      return refuse(ROOM);
    }
    if (what != 0 && what != 1) {
      return refuse(OTHER);
    }
    return trials.byLot(now, n, z, what);
  }

  public int image() {
    kept.copyFrom(now);
    isKept = true;
    return now.guests;
  }

  public int on() {
    if (!isKept) {
      return refuse(STATE);
    }
    now.copyFrom(kept);
    return now.guests;
  }

  public int count(int what) {
    if (what >= 11 && what <= 16) {
      return refusals[what - 10];
    }
    switch (what) {
      case 0:
        return now.guests;
      case 1:
        return now.remarks;
      case 2:
        return now.waiters;
      case 3:
        return now.corkage;
      case 4:
        return now.moodsTogether();
      case 5:
        return now.allPrices();
      case 6:
        return toldSize;
      case 7:
        return letters.size;
      default:
        return NONE;
    }
  }

  private int refuse(int number) {
    int place = -number;
    if (place >= 0 && place < refusals.length) {
      refusals[place]++;
    }
    return number;
  }

  private long refuseLong(int number) {
    return 4000000000000000000L - refuse(number);
  }

  private Evening eveningNow() {
    trials.trial.copyFrom(now);
    trials.evening.run(0);
    return trials.evening;
  }

  // The statements are tried on a copy, so that a fault in a later one leaves nothing of the earlier.
  private int become() {
    int stray = letters.firstStray();
    if (stray >= 0) {
      return -1000 - stray;
    }
    Table trial = trials.trial;
    trial.copyFrom(now);
    int statements = 0;
    int place = 0;
    while (statements < MAX_LETTERS && place < letters.size) {
      if (!letters.tell(trial, place)) {
        return -2000 - place;
      }
      place += Letters.sizeOf(letters.at(place));
      statements++;
    }
    now.copyFrom(trial);
    return statements;
  }

  private int kindsAsTold(int guest, int remark) {
    Table trial = trials.trial;
    trial.copyFrom(now);
    int bits = 0;
    for (int kind = 0; kind < KINDS; kind++) {
      trial.kinds[remark] = kind;
      bits |= trials.isAsTold(guest, told, toldSize) ? 1 << kind : 0;
    }
    return bits;
  }

  private int topicsAsTold(int guest, int remark) {
    Table trial = trials.trial;
    trial.copyFrom(now);
    int bits = 0;
    for (int topic = 0; topic < TOPICS; topic++) {
      trial.topics[remark] = topic;
      bits |= trials.isAsTold(guest, told, toldSize) ? 1 << topic : 0;
    }
    return bits;
  }

  private int firstUntrue(Evening evening) {
    for (int i = 0; i < toldSize && i < told.length; i++) {
      if (told[i] != evening.openedBy(5 * (i + 1))) {
        return i;
      }
    }
    return NONE;
  }

  private static long power(long base, int times) {
    long product = 1;
    for (int i = 0; i < times; i++) {
      product *= base;
    }
    return product;
  }

  private static long greatestDivisor(long one, long other) {
    long a = one;
    long b = other;
    // Euclid's steps on numbers below 2^63 are under a hundred.
    for (int step = 0; step < 100 && b != 0; step++) {
      long rest = a % b;
      a = b;
      b = rest;
    }
    return a;
  }

  /** What a kind says of its remarks; where a kind is not named, it says what the one above it says. */
  private static final class Kinds {
    private static final int DULL_MINUTES = 3;

    static int minutesFor(int kind, int figure) {
      switch (kind) {
        case DULL:
          return DULL_MINUTES;
        case PROPOSAL:
          return 2;
        case CRUSTED:
          return DULL_MINUTES + figure;
        default:
          return 1;
      }
    }

    static int moreMood(int kind, int figure) {
      switch (kind) {
        case WITTY:
        case CRUSTED:
          return 2;
        case DULL:
          return 0;
        case PROPOSAL:
          return figure;
        default:
          return 1;
      }
    }

    static int lessMood(int kind, int figure) {
      switch (kind) {
        case DULL:
        case CRUSTED:
        case HOUSE:
          return 1;
        case PROPOSAL:
          return figure;
        default:
          return 0;
      }
    }

    static int price(int kind, int figure, int corkage) {
      switch (kind) {
        case WITTY:
          return corkage / 2;
        case DULL:
        case CRUSTED:
          return 2 * corkage;
        case HOUSE:
          return figure;
        default:
          return corkage;
      }
    }
  }

  /** Who sits at the table, what they bring, and the house's terms. */
  private static final class Table {
    final int[] likes = new int[MAX_GUESTS];
    final int[] moods = new int[MAX_GUESTS];
    final int[] kinds = new int[MAX_REMARKS];
    final int[] figures = new int[MAX_REMARKS];
    final int[] bringers = new int[MAX_REMARKS];
    final int[] topics = new int[MAX_REMARKS];
    final int[] readies = new int[MAX_REMARKS];
    int guests = 0;
    int remarks = 0;
    int waiters = 1;
    int corkage = 3;

    void copyFrom(Table other) {
      for (int g = 0; g < MAX_GUESTS; g++) {
        likes[g] = other.likes[g];
        moods[g] = other.moods[g];
      }
      for (int r = 0; r < MAX_REMARKS; r++) {
        kinds[r] = other.kinds[r];
        figures[r] = other.figures[r];
        bringers[r] = other.bringers[r];
        topics[r] = other.topics[r];
        readies[r] = other.readies[r];
      }
      guests = other.guests;
      remarks = other.remarks;
      waiters = other.waiters;
      corkage = other.corkage;
    }

    boolean hasGuest(int guest) {
      return guest >= 0 && guest < guests;
    }

    boolean hasTwo(int one, int other) {
      return hasGuest(one) && hasGuest(other) && one != other;
    }

    boolean hasRemark(int remark) {
      return remark >= 0 && remark < remarks;
    }

    boolean seat(int guestLikes, int guestMood) {
      if (guests >= MAX_GUESTS || guestLikes > MAX_LIKES || guestMood > MAX_MOOD) {
        return false;
      }
      likes[guests] = guestLikes;
      moods[guests] = guestMood;
      guests++;
      return true;
    }

    boolean bring(int kind, int figure, int guest, int topic, int minute) {
      if (remarks >= MAX_REMARKS || !hasGuest(guest) || topic >= TOPICS || minute > MAX_READY) {
        return false;
      }
      kinds[remarks] = kind;
      figures[remarks] = figure;
      bringers[remarks] = guest;
      topics[remarks] = topic;
      readies[remarks] = minute;
      remarks++;
      return true;
    }

    boolean hire(int number) {
      if (number < 1 || number > MAX_WAITERS) {
        return false;
      }
      waiters = number;
      return true;
    }

    boolean charge(int price) {
      corkage = price;
      return true;
    }

    boolean humour(int guest, int guestMood) {
      if (!hasGuest(guest) || guestMood > MAX_MOOD) {
        return false;
      }
      moods[guest] = guestMood;
      return true;
    }

    boolean changeSeats(int one, int other) {
      if (!hasTwo(one, other)) {
        return false;
      }
      int oneLikes = likes[one];
      int oneMood = moods[one];
      likes[one] = likes[other];
      moods[one] = moods[other];
      likes[other] = oneLikes;
      moods[other] = oneMood;
      for (int r = 0; r < remarks; r++) {
        if (bringers[r] == one) {
          bringers[r] = other;
        } else if (bringers[r] == other) {
          bringers[r] = one;
        }
      }
      return true;
    }

    int minutesFor(int remark) {
      return hasRemark(remark) ? Kinds.minutesFor(kinds[remark], figures[remark]) : 1;
    }

    int priceOf(int remark) {
      return hasRemark(remark) ? Kinds.price(kinds[remark], figures[remark], corkage) : 0;
    }

    int hearersOf(int remark) {
      if (!hasRemark(remark)) {
        return 0;
      }
      int bringer = bringers[remark];
      int others = ((1 << guests) - 1) & ~(1 << bringer);
      if (kinds[remark] != PROPOSAL) {
        return others;
      }
      int next = bringer + 1 < guests ? bringer + 1 : 0;
      // One who sits alone is his own neighbour, but does not hear what he brings.
      return others & (1 << next);
    }

    int likersOf(int topic) {
      int bits = 0;
      for (int g = 0; g < guests; g++) {
        bits |= ((likes[g] >> topic) & 1) << g;
      }
      return bits;
    }

    int moodsTogether() {
      int sum = 0;
      for (int g = 0; g < guests; g++) {
        sum += moods[g];
      }
      return sum;
    }

    int allPrices() {
      int sum = 0;
      for (int r = 0; r < remarks; r++) {
        sum += priceOf(r);
      }
      return sum;
    }

    int mostLikers() {
      int most = 0;
      for (int topic = 0; topic < TOPICS; topic++) {
        most = Math.max(most, Integer.bitCount(likersOf(topic)));
      }
      return most;
    }

    int topicsLikedBy(int howMany) {
      int bits = 0;
      for (int topic = 0; topic < TOPICS; topic++) {
        bits |= Integer.bitCount(likersOf(topic)) == howMany ? 1 << topic : 0;
      }
      return bits;
    }

    int dearest() {
      int best = NONE;
      int most = -1;
      for (int r = 0; r < remarks; r++) {
        if (priceOf(r) > most) {
          most = priceOf(r);
          best = r;
        }
      }
      return best;
    }

    int broughtBy(int guest) {
      int bits = 0;
      for (int r = 0; r < remarks; r++) {
        bits |= bringers[r] == guest ? 1 << r : 0;
      }
      return bits;
    }
  }

  /** The letters that have come, and the statements that they spell. */
  private static final class Letters {
    private final int[] signs = new int[MAX_LETTERS];
    int size = 0;

    void add(int sign) {
      if (size >= 0 && size < signs.length) {
        signs[size] = sign;
        size++;
      }
    }

    int at(int place) {
      return place >= 0 && place < size ? signs[place] : -1;
    }

    static int sizeOf(int head) {
      switch (head) {
        case 'g':
          return 7;
        case 'r':
          return 8;
        case 'w':
        case 'c':
          return 3;
        case 'x':
          return 4;
        case 'm':
          return 5;
        default:
          return 0;
      }
    }

    static int kindOf(int sign) {
      switch (sign) {
        case 'r':
          return REMARK;
        case 'w':
          return WITTY;
        case 'd':
          return DULL;
        case 'p':
          return PROPOSAL;
        case 'c':
          return CRUSTED;
        case 'h':
          return HOUSE;
        default:
          return -1;
      }
    }

    int firstStray() {
      if (size == 0) {
        return 0;
      }
      int place = 0;
      for (int statement = 0; statement < MAX_LETTERS && place < size; statement++) {
        int stray = strayFrom(place);
        if (stray >= 0) {
          return stray;
        }
        place += sizeOf(at(place));
      }
      return -1;
    }

    private int strayFrom(int start) {
      int head = at(start);
      int length = sizeOf(head);
      if (length == 0) {
        return start;
      }
      for (int k = 1; k < length; k++) {
        if (!fits(head, k, at(start + k))) {
          return start + k;
        }
      }
      return -1;
    }

    private static boolean fits(int head, int k, int sign) {
      if (k == sizeOf(head) - 1) {
        return sign == ';';
      }
      if (head == 'r' && k == 1) {
        return kindOf(sign) >= 0;
      }
      return sign >= '0' && sign <= '9';
    }

    boolean tell(Table table, int start) {
      switch (at(start)) {
        case 'g':
          return table.seat(number(start + 1, 3), number(start + 4, 2));
        case 'r':
          return table.bring(kindOf(at(start + 1)), number(start + 2, 1), number(start + 3, 1),
              number(start + 4, 1), number(start + 5, 2));
        case 'w':
          return table.hire(number(start + 1, 1));
        case 'c':
          return table.charge(number(start + 1, 1));
        case 'x':
          return table.changeSeats(number(start + 1, 1), number(start + 2, 1));
        case 'm':
          return table.humour(number(start + 1, 1), number(start + 2, 2));
        default:
          return false;
      }
    }

    private int number(int start, int digits) {
      int value = 0;
      for (int k = 0; k < digits; k++) {
        value = 10 * value + at(start + k) - '0';
      }
      return value;
    }
  }

  /** An evening at a table of its own, minute by minute; moods are those behind the last minute gone through. */
  private static final class Evening {
    final Table table = new Table();
    final int[] taken = new int[MAX_REMARKS];
    final int[] opened = new int[MAX_REMARKS];
    final boolean[] sentBack = new boolean[MAX_REMARKS];
    final int[] moods = new int[MAX_GUESTS];
    private final int[] done = new int[MAX_REMARKS];
    private int left = 0;

    void run(int leftOut) {
      begin(leftOut);
      for (int minute = 0; minute <= END; minute++) {
        pass(minute);
      }
    }

    void begin(int leftOut) {
      left = leftOut;
      for (int r = 0; r < MAX_REMARKS; r++) {
        taken[r] = NONE;
        opened[r] = NONE;
        done[r] = NONE;
        sentBack[r] = false;
      }
      for (int g = 0; g < MAX_GUESTS; g++) {
        moods[g] = table.moods[g];
      }
    }

    void pass(int minute) {
      for (int r = 0; r < table.remarks; r++) {
        if (done[r] == minute) {
          open(r, minute);
        }
      }
      if (minute < END) {
        takeWhatIsReady(minute);
      }
    }

    private void open(int remark, int minute) {
      if (!table.hasRemark(remark)) {
        return;
      }
      int hearers = table.hearersOf(remark);
      int likers = table.likersOf(table.topics[remark]);
      opened[remark] = minute;
      sentBack[remark] = Integer.bitCount(hearers & ~likers) > Integer.bitCount(hearers & likers);
      if (!sentBack[remark]) {
        int kind = table.kinds[remark];
        int figure = table.figures[remark];
        changeMoods(hearers & likers, Kinds.moreMood(kind, figure));
        changeMoods(hearers & ~likers, -Kinds.lessMood(kind, figure));
      }
    }

    private void changeMoods(int whose, int by) {
      for (int g = 0; g < table.guests; g++) {
        if (((whose >> g) & 1) == 1) {
          moods[g] = Math.max(0, Math.min(MAX_MOOD, moods[g] + by));
        }
      }
    }

    private void takeWhatIsReady(int minute) {
      int free = table.waiters - busyAt(minute);
      for (int waiter = 0; waiter < free; waiter++) {
        int remark = nextToTake(minute);
        if (table.hasRemark(remark)) {
          taken[remark] = minute;
          done[remark] = minute + table.minutesFor(remark);
        }
      }
    }

    private int nextToTake(int minute) {
      int next = NONE;
      int first = minute + 1;
      for (int r = 0; r < table.remarks; r++) {
        boolean waits = taken[r] == NONE && ((left >> r) & 1) == 0;
        if (waits && table.readies[r] < first) {
          first = table.readies[r];
          next = r;
        }
      }
      return next;
    }

    // Each waiter has one remark at a time, so as many are busy as remarks are under way.
    private int busyAt(int minute) {
      int busyWaiters = 0;
      for (int r = 0; r < table.remarks; r++) {
        if (taken[r] != NONE && taken[r] <= minute && minute < done[r]) {
          busyWaiters++;
        }
      }
      return busyWaiters;
    }

    int minutesWithBusy(int least) {
      int minutes = 0;
      for (int minute = 0; minute < END; minute++) {
        minutes += busyAt(minute) >= least ? 1 : 0;
      }
      return minutes;
    }

    int moodsTogether() {
      int sum = 0;
      for (int g = 0; g < table.guests; g++) {
        sum += moods[g];
      }
      return sum;
    }

    int billOf(int guest) {
      int sum = 0;
      for (int r = 0; r < table.remarks; r++) {
        sum += opened[r] != NONE && table.bringers[r] == guest ? table.priceOf(r) : 0;
      }
      return sum;
    }

    int wholeBill() {
      int sum = 0;
      for (int g = 0; g < table.guests; g++) {
        sum += billOf(g);
      }
      return sum;
    }

    int openedBy(int minute) {
      int number = 0;
      for (int r = 0; r < table.remarks; r++) {
        number += opened[r] != NONE && opened[r] <= minute ? 1 : 0;
      }
      return number;
    }

    int howManySentBack() {
      int number = 0;
      for (int r = 0; r < table.remarks; r++) {
        number += sentBack[r] ? 1 : 0;
      }
      return number;
    }

    int lastOpening() {
      int last = NONE;
      for (int r = 0; r < table.remarks; r++) {
        last = Math.max(last, opened[r]);
      }
      return last;
    }

    private boolean isSilent(int minute) {
      for (int r = 0; r < table.remarks; r++) {
        if (opened[r] == minute) {
          return false;
        }
      }
      return true;
    }

    int longestSilence() {
      int longest = 0;
      int length = 0;
      for (int minute = 0; minute <= END; minute++) {
        length = isSilent(minute) ? length + 1 : 0;
        longest = Math.max(longest, length);
      }
      return longest;
    }

    int startOfSilence(int longest) {
      int length = 0;
      for (int minute = 0; minute <= END && longest > 0; minute++) {
        length = isSilent(minute) ? length + 1 : 0;
        if (length == longest) {
          return minute - length + 1;
        }
      }
      return NONE;
    }
  }

  /** What would be: evenings with something left out or at a table that is otherwise. */
  private static final class Trials {
    final Evening evening = new Evening();
    final Table trial = evening.table;

    private int moodsLeaving(int leftOut) {
      evening.run(leftOut);
      return evening.moodsTogether();
    }

    int moodBehind(Table now, int guest, int minute) {
      if (!now.hasGuest(guest)) {
        return NONE;
      }
      trial.copyFrom(now);
      evening.begin(0);
      for (int passing = 0; passing <= minute && passing <= END; passing++) {
        evening.pass(passing);
      }
      return evening.moods[guest];
    }

    int moreWithout(Table now, int remark) {
      trial.copyFrom(now);
      return moodsLeaving(1 << remark) - moodsLeaving(0);
    }

    int minuteOfMostMoods(Table now, int remark) {
      if (!now.hasRemark(remark)) {
        return NONE;
      }
      trial.copyFrom(now);
      int best = 0;
      int most = -1;
      for (int minute = 0; minute <= MAX_READY; minute++) {
        trial.readies[remark] = minute;
        int together = moodsLeaving(0);
        if (together > most) {
          most = together;
          best = minute;
        }
      }
      return best;
    }

    int leastWaiters(Table now) {
      trial.copyFrom(now);
      for (int waiters = 1; waiters <= MAX_WAITERS; waiters++) {
        trial.waiters = waiters;
        evening.run(0);
        if (evening.openedBy(END) == now.remarks) {
          return waiters;
        }
      }
      return NONE;
    }

    int seatsOfMostMoods(Table now) {
      trial.copyFrom(now);
      int best = NONE;
      int most = moodsLeaving(0);
      for (int one = 0; one < now.guests; one++) {
        for (int other = one + 1; other < now.guests; other++) {
          trial.copyFrom(now);
          trial.changeSeats(one, other);
          int together = moodsLeaving(0);
          if (together > most) {
            most = together;
            best = 10 * one + other;
          }
        }
      }
      return best;
    }

    // Trying the guest who brings it anyway does no harm: it never makes more than now.
    int bringerOfMostMoods(Table now) {
      trial.copyFrom(now);
      int best = NONE;
      int most = moodsLeaving(0);
      for (int r = 0; r < now.remarks; r++) {
        trial.copyFrom(now);
        for (int g = 0; g < now.guests; g++) {
          trial.bringers[r] = g;
          int together = moodsLeaving(0);
          if (together > most) {
            most = together;
            best = 10 * r + g;
          }
        }
      }
      return best;
    }

    int leftSoNothingIsSentBack(Table now) {
      trial.copyFrom(now);
      int best = (1 << now.remarks) - 1;
      for (int left = 0; left < 1 << now.remarks; left++) {
        if (Integer.bitCount(left) < Integer.bitCount(best)) {
          evening.run(left);
          best = evening.howManySentBack() == 0 ? left : best;
        }
      }
      return best;
    }

    int leftForMostMoods(Table now) {
      trial.copyFrom(now);
      int best = 0;
      int most = -1;
      for (int left = 0; left < 1 << now.remarks; left++) {
        int together = moodsLeaving(left);
        boolean fewer = Integer.bitCount(left) < Integer.bitCount(best);
        if (together > most || (together == most && fewer)) {
          most = together;
          best = left;
        }
      }
      return best;
    }

    boolean isAsTold(int guest, int[] told, int size) {
      if (!trial.hasGuest(guest)) {
        return false;
      }
      evening.begin(0);
      for (int minute = 0; minute < size && minute < told.length; minute++) {
        evening.pass(minute);
        if (evening.moods[guest] != told[minute]) {
          return false;
        }
      }
      return true;
    }

    int firstSettledPair(Table now, int a, int b) {
      trial.copyFrom(now);
      int ofA = now.broughtBy(a);
      int ofB = now.broughtBy(b);
      for (int pair = 0; pair < 4; pair++) {
        int leftA = pair >= 2 ? ofA : 0;
        int leftB = (pair & 1) == 1 ? ofB : 0;
        int elseA = ofA ^ leftA;
        int elseB = ofB ^ leftB;
        boolean staysA = worthOf(a, leftA | leftB) >= worthOf(a, elseA | leftB);
        boolean staysB = worthOf(b, leftA | leftB) >= worthOf(b, leftA | elseB);
        if (staysA && staysB) {
          return 10 * (pair >> 1) + (pair & 1);
        }
      }
      return NONE;
    }

    private int worthOf(int guest, int leftOut) {
      if (!trial.hasGuest(guest)) {
        return 0;
      }
      evening.run(leftOut);
      return evening.moods[guest] - evening.billOf(guest);
    }

    // Of t times itself once for each remark, so many ways of forgetting leave the moods at v or more.
    long waysToReach(Table now, int t, int v) {
      trial.copyFrom(now);
      long ways = 0;
      for (int forgotten = 0; forgotten < 1 << now.remarks; forgotten++) {
        if (moodsLeaving(forgotten) >= v) {
          ways += power(t - 1, now.remarks - Integer.bitCount(forgotten));
        }
      }
      return ways;
    }

    int byLot(Table now, int evenings, int seed, int what) {
      trial.copyFrom(now);
      int z = seed;
      int sum = 0;
      for (int i = 0; i < evenings; i++) {
        for (int r = 0; r < trial.remarks; r++) {
          z = z * 1664525 + 1013904223;
          trial.readies[r] = (z & 0x7fffffff) / 256 % (MAX_READY + 1);
        }
        evening.run(0);
        sum += what == 0 ? evening.moodsTogether() : evening.howManySentBack();
      }
      return sum;
    }
  }

  /** How guests settle a bill in equal parts. */
  private static final class Shares {
    private final int[] over = new int[MAX_GUESTS];
    private final int[] groups = new int[1 << MAX_GUESTS];

    // A group whose accounts even out among themselves needs one payment fewer than it has guests;
    // so the more such groups the guests fall into, the fewer payments there are.
    int fewestPayments(int guests, Evening evening) {
      if (guests < 1 || guests > MAX_GUESTS) {
        return 0;
      }
      findWhoIsOver(guests, evening);
      for (int set = 1; set < 1 << guests; set++) {
        groups[set] = mostGroups(set, guests);
      }
      return guests - groups[(1 << guests) - 1];
    }

    private void findWhoIsOver(int guests, Evening evening) {
      int whole = evening.wholeBill();
      int rest = whole % guests;
      for (int g = 0; g < guests; g++) {
        over[g] = evening.billOf(g) - whole / guests - (g < rest ? 1 : 0);
      }
    }

    private int mostGroups(int set, int guests) {
      int most = 0;
      int sum = 0;
      for (int g = 0; g < guests; g++) {
        if (((set >> g) & 1) == 1) {
          sum += over[g];
          most = Math.max(most, groups[set ^ (1 << g)]);
        }
      }
      return most + (sum == 0 ? 1 : 0);
    }
  }
}
