import java.math.BigInteger;
import java.util.ArrayList;
import java.util.List;
import java.util.Random;

/** Tables by lot, each asked everything, beside PlainTable. The seed is fixed, so every run is the same. */
public final class RandomTest {
  private static final Check CHECK = new Check();
  private static final Random LOT = new Random(1);

  private final CorkageOnRemarks x = new CorkageOnRemarks();
  private PlainTable plain = new PlainTable();
  private PlainTable kept = null;
  private final List<Integer> row = new ArrayList<>();
  private String history = "";

  public static void main(String[] args) {
    for (int i = 0; i < 150; i++) {
      RandomTest run = new RandomTest();
      run.crowd();
      run.ask();
      run.alter();
      run.ask();
      run.others();
    }
    for (int i = 0; i < 5000; i++) {
      new RandomTest().scribble();
    }
    CHECK.end("RandomTest");
  }

  private static int lot(int below) {
    return LOT.nextInt(below);
  }

  private void same(String what, long got, long want) {
    CHECK.same(what + " at " + history, got, want);
  }

  private void tell(String text) {
    history += text + " ";
    same("table", Check.tell(x, text), plain.tell(text));
  }

  private static String remark(int guests, int latest) {
    int topic = lot(lot(2) == 0 ? 2 : 8);
    return "r" + "rwdpch".charAt(lot(6)) + lot(10) + lot(guests) + topic + Check.digits(2, lot(latest)) + ";";
  }

  // Few topics, few minutes, and moods near their ends make more meet.
  private void crowd() {
    int guests = lot(7);
    StringBuilder text = new StringBuilder();
    for (int g = 0; g < guests; g++) {
      int likes = lot(2) == 0 ? lot(4) : lot(256);
      int mood = lot(3) == 0 ? 38 + lot(3) : lot(41);
      text.append("g").append(Check.digits(3, likes)).append(Check.digits(2, mood)).append(";");
    }
    text.append("w").append(1 + lot(3)).append(";c").append(lot(10)).append(";");
    tell(text.toString());
    int from = lot(2) == 0 ? 0 : 50;
    for (int r = guests == 0 ? 7 : lot(3); r < 7; r++) {
      String remark = remark(guests, lot(2) == 0 ? 10 : 60);
      tell(remark);
      if (from > 0 && lot(2) == 0 && x.count(1) > 0) {
        int last = x.count(1) - 1;
        int minute = 50 + lot(10);
        same("ready", x.ready(last, minute), plain.remarks.get(last).ready);
        plain.remarks.get(last).ready = minute;
        history += "ready" + last + "=" + minute + " ";
      }
    }
  }

  private void ask() {
    askHeld();
    askEvening();
    askTrials();
    askOdds();
    askRow();
  }

  private void askHeld() {
    int moods = 0;
    int prices = 0;
    for (int g = 0; g < plain.guests.size(); g++) {
      same("likes", x.guest(g, 0), plain.guests.get(g).likes);
      same("mood", x.guest(g, 1), plain.guests.get(g).mood);
      moods += plain.guests.get(g).mood;
    }
    for (int i = 0; i < plain.remarks.size(); i++) {
      PlainTable.Remark r = plain.remarks.get(i);
      int[] due = {"rwdpch".indexOf(r.kind), r.figure, plain.guests.indexOf(r.bringer), r.topic, r.ready,
          PlainTable.minutes(r), plain.price(r), plain.hearerBits(r)};
      for (int what = 0; what < due.length; what++) {
        same("remark " + i + "," + what, x.remark(i, what), due[what]);
      }
      prices += plain.price(r);
    }
    int[] due = {plain.guests.size(), plain.remarks.size(), plain.waiters, plain.corkage, moods, prices, row.size(), 0};
    for (int what = 0; what < due.length; what++) {
      same("count " + what, x.count(what), due[what]);
    }
    same("could", x.could(0), plain.could(0));
    same("could", x.could(1), plain.could(1));
    same("dear", x.dear(), plain.dear());
  }

  private void askEvening() {
    PlainTable.Evening e = plain.evening();
    for (int what = 0; what < 5; what++) {
      same("sums " + what, x.sums(what), e.sum(what));
    }
    for (int r = 0; r < plain.remarks.size(); r++) {
      same("taken " + r, x.of(r, 0), e.taken[r]);
      same("opened " + r, x.of(r, 1), e.opened[r]);
      same("back " + r, x.of(r, 2), e.back[r] ? 1 : 0);
    }
    for (int g = 0; g < plain.guests.size(); g++) {
      for (int minute : new int[] {0, 1, 60, lot(61), lot(15), lot(61)}) {
        same("moodAt " + g + "," + minute, x.moodAt(g, minute), e.mood[minute][g]);
      }
      same("bill " + g, x.bill(g), e.bill(g));
    }
    same("silence", x.silence(0), e.silence()[0]);
    same("silence", x.silence(1), e.silence()[1]);
    same("busy", x.busy(0), e.someBusy);
    same("busy", x.busy(1), e.allBusy);
  }

  private void askTrials() {
    int now = plain.evening().moods();
    for (int r = 0; r < plain.remarks.size(); r++) {
      same("without " + r, x.without(r), plain.new Evening(1 << r).moods() - now);
      same("bestMinute " + r, x.bestMinute(r), plain.bestMinute(r));
    }
    same("enough", x.enough(), plain.enough());
    same("swap", x.swap(), plain.swap());
    same("fit", x.fit(), plain.fit());
    same("spare", x.spare(0), plain.spare());
    same("spare", x.spare(1), Integer.bitCount(plain.spare()));
    same("cold", x.cold(), plain.cold());
    same("payments", x.payments(), plain.payments());
    for (int a = 0; a < plain.guests.size(); a++) {
      for (int b = 0; b < plain.guests.size(); b++) {
        if (a != b && lot(3) == 0) {
          same("haggle " + a + "," + b, x.haggle(a, b), plain.haggle(a, b));
        }
      }
    }
  }

  private void askOdds() {
    for (int i = 0; i < 3; i++) {
      int t = 2 + lot(19);
      int v = Math.max(0, Math.min(240, plain.evening().moods() - 5 + lot(9)));
      BigInteger[] odds = plain.odds(t, v);
      same("odds " + t + "," + v, x.odds(t, v, 0), odds[0].longValueExact());
      same("odds " + t + "," + v, x.odds(t, v, 1), odds[1].longValueExact());
      int n = 1 + lot(20);
      int z = LOT.nextInt();
      same("lots " + n + "," + z, x.lots(n, z, 0), plain.lots(n, z, 0));
      same("lots " + n + "," + z, x.lots(n, z, 1), plain.lots(n, z, 1));
    }
  }

  private void push(int v) {
    if (row.size() < 12) {
      row.add(v);
      same("row", x.row(v), row.size());
    }
  }

  private void askRow() {
    PlainTable.Evening e = plain.evening();
    int length = lot(13);
    for (int i = 0; i < length; i++) {
      push(lot(40) == 0 ? lot(100) : e.openedBy(5 * (i + 1)));
    }
    same("judge", x.judge(), plain.judge(row));
    row.clear();
    if (plain.guests.isEmpty() || plain.remarks.isEmpty()) {
      return;
    }
    int g = lot(plain.guests.size());
    length = lot(13);
    for (int i = 0; i < length; i++) {
      push(lot(60) == 0 ? lot(41) : e.mood[i][g]);
    }
    for (int r = 0; r < plain.remarks.size(); r++) {
      same("who " + g + "," + r, x.who(g, r, 0), plain.who(g, r, 0, row));
      same("who " + g + "," + r, x.who(g, r, 1), plain.who(g, r, 1, row));
    }
    if (lot(2) == 0) {
      same("clear", x.clear(), row.size());
      row.clear();
    }
  }

  private void alter() {
    if (lot(2) == 0) {
      same("image", x.image(), plain.guests.size());
      kept = plain.copy();
    }
    if (plain.guests.size() > 1) {
      int a = lot(plain.guests.size());
      int b = (a + 1 + lot(plain.guests.size() - 1)) % plain.guests.size();
      plain.change(a, b);
      same("change", x.change(a, b), plain.guests.get(a).likes);
      int mood = lot(41);
      same("mood", x.mood(a, mood), plain.guests.get(a).mood);
      plain.guests.get(a).mood = mood;
      tell("x" + b + a + ";m" + b + Check.digits(2, lot(41)) + ";");
      history += "change" + a + b + " mood" + a + "=" + mood + " ";
    }
    int waiters = 1 + lot(3);
    int corkage = lot(10);
    same("set", x.set(0, waiters), plain.waiters);
    same("set", x.set(1, corkage), plain.corkage);
    plain.waiters = waiters;
    plain.corkage = corkage;
    history += "w=" + waiters + " c=" + corkage + " ";
  }

  private void others() {
    if (kept == null) {
      same("on", x.on(), -3);
      return;
    }
    same("on", x.on(), kept.guests.size());
    plain = kept.copy();
    askHeld();
    askEvening();
  }

  // Statements with a sign or a number wrong here and there.
  private void scribble() {
    for (int turn = 0; turn < 3; turn++) {
      StringBuilder text = new StringBuilder();
      while (text.length() < 80 && lot(12) > 0) {
        int guests = 1 + lot(lot(3) == 0 ? 10 : 3);
        switch (lot(6)) {
          case 0:
            int likes = lot(lot(6) == 0 ? 1000 : 256);
            text.append("g").append(Check.digits(3, likes)).append(Check.digits(2, lot(45))).append(";");
            break;
          case 1:
            text.append(remark(guests, 63));
            break;
          case 2:
            text.append("w").append(lot(8) == 0 ? lot(10) : 1 + lot(3)).append(";");
            break;
          case 3:
            text.append("c").append(lot(10)).append(";");
            break;
          case 4:
            text.append("x").append(lot(guests)).append(lot(guests)).append(";");
            break;
          default:
            text.append("m").append(lot(guests)).append(Check.digits(2, lot(43))).append(";");
        }
      }
      if (lot(5) == 0 && text.length() > 0) {
        text.setCharAt(lot(text.length()), "grwcxmdph;0193/:".charAt(lot(16)));
      }
      if (lot(8) == 0) {
        text.setLength(lot(text.length() + 1));
      }
      tell(text.toString());
    }
    askHeld();
  }
}
