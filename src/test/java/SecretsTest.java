import java.math.BigInteger;
import java.security.GeneralSecurityException;
import java.security.KeyFactory;
import java.security.Signature;
import java.security.spec.EdECPrivateKeySpec;
import java.security.spec.NamedParameterSpec;
import java.security.spec.XECPrivateKeySpec;
import java.security.spec.XECPublicKeySpec;
import java.util.Arrays;
import java.util.List;
import java.util.Random;
import javax.crypto.KeyAgreement;

/** Promises 22 to 25: share, digest, key, sign; by the figures of the RFCs, by Java's own library, by the Model. */
public final class SecretsTest {
  private static final BigInteger NINE = BigInteger.valueOf(9);
  private static final Due DUE = new Due("SecretsTest");

  /** Secret, public key, text, signature: tests 1, 2, 3 and SHA(abc) of RFC 8032. */
  private static final String[][] SIGNED = {
    {"9d61b19deffd5a60ba844af492ec2cc44449c5697b326919703bac031cae7f60",
      "d75a980182b10ab7d54bfed3c964073a0ee172f3daa62325af021a68f707511a", "",
      "e5564300c360ac729086e2cc806e828a84877f1eb8e5d974d873e065224901555fb8821590a33bacc61e39701cf9b46bd25bf5f0595bbe24655141438e7a100b"},
    {"4ccd089b28ff96da9db6c346ec114e0f5b8a319f35aba624da8cf6ed4fb8a6fb",
      "3d4017c3e843895a92b70aa74d1b7ebc9c982ccf2ec4968cc0cd55f12af4660c", "72",
      "92a009a9f0d4cab8720e820b5f642540a2b27b5416503f8fb3762223ebdb69da085ac1e43e15996e458f3613d0f11d8c387b2eaeb4302aeeb00d291612bb0c00"},
    {"c5aa8df43f9f837bedb7442f31dcb7b166d38535076f094b85ce3a2e0b4458f7",
      "fc51cd8e6218a1a38da47ed00230f0580816ed13ba3303ac5deb911548908025", "af82",
      "6291d657deec24024827e69c3abe01a30ce548a284743a445e3680d7db5ac3ac18ff9b538d16f290ae67f760984dc6594a7c15e9716ed28dc027beceea1ec40a"},
    {"833fe62409237b9d62ec77587520911e9a759cec1d19755b7da901b96dca3d42",
      "ec172b93ad5e563bf4932c70e1245034c35467ef2efd4d64ebf819683467e2bf",
      "ddaf35a193617abacc417349ae20413112e6fa4e89a97ea20a9eeee64b55d39a2192992a274fc1a836ba3c23a3feebbd454d4423643ce80e2a9ac94fa54ca49f",
      "dc2a4459e7369633a52b1bf277839a00201009a3efbf3ecb69bea2186c26b58909351fc9ac90b3ecfdfbc7c66431e0303dca179c138ac17ad9bef1177331a704"}
  };

  public static void main(String[] args) throws GeneralSecurityException {
    sharedByTheBook();
    sharedManyTimes();
    sharedOfAnyKind();
    sharedNothing();
    sharedBits();
    sharedAsInJava();
    digests();
    keysAndSignaturesByTheBook();
    keysOfAnyKind();
    signedAsInJava();
    inPlace();
    unknownSlots();
    DUE.end();
  }

  private static BigInteger shared(BigInteger k, BigInteger u) {
    LadderSigns x = Desk.with(k, u);
    DUE.is("share", x.share(0, 1, 2), Desk.get(x, 2).signum());
    return Desk.get(x, 2);
  }

  private static void sharedByTheBook() {
    DUE.same("first of RFC 7748",
        shared(Desk.hex("a546e36bf0527c9d3b16154b82465edd62144c0ac1fc5a18506a2244ba449ac4"),
            Desk.hex("e6db6867583030db3594c1a424b15f7c726624ec26b3353b10a903a6d0ab1c4c")),
        Desk.hex("c3da55379de9c6908e94ea4df28d084f32eccf03491c71f754b4075577a28552"));
    DUE.same("second of RFC 7748",
        shared(Desk.hex("4b66e9d4d1b4673c5ad22691957d6af5c11b6421e0ea01d42ca4169e7918ba0d"),
            Desk.hex("e5210f12786811d3f4b7959d0538ae2c31dbe7106fc03c3efc4cd549c715a493")),
        Desk.hex("95cbde9476e8907d7aade45cb4b873f88b595a68799fa152e6f8f7647aac7957"));
  }

  /** A thousand times over, as RFC 7748 tells, on desks of 400 units each. */
  private static void sharedManyTimes() {
    BigInteger k = NINE;
    BigInteger u = NINE;
    for (int i = 0; i < 1000; ) {
      LadderSigns x = Desk.with(k, u);
      for (int j = 0; j < 100; j++, i++) {
        x.share(0, 1, 2);
        x.copy(0, 1);
        x.copy(2, 0);
        if (i == 0) DUE.same("after 1", Desk.get(x, 0), Desk.hex("422c8e7a6227d7bca1350b3e2bb7279f7897b87bb6854b783c60e80311ae3079"));
      }
      k = Desk.get(x, 0);
      u = Desk.get(x, 1);
    }
    DUE.same("after 1000", k, Desk.hex("684cf59ba83309552800ef566f2f4d3c1c3887c49360e3875f2eb94d99532c51"));
  }

  private static void sharedOfAnyKind() {
    Random random = new Random(22);
    List<BigInteger> us = Numbers.ends();
    for (int i = 0; i < 40; i++) us.add(Numbers.any(random));
    for (BigInteger u : us) {
      BigInteger k = Numbers.any(random);
      LadderSigns x = Desk.with(k, u, BigInteger.TEN);
      BigInteger due = Model.ladder(k, Model.fieldNumber(u));
      DUE.is("share", x.share(0, 1, 2), due.signum());
      DUE.same("share of " + k + " and " + u, Desk.get(x, 2), due);
      DUE.same("k stays", Desk.get(x, 0), k);
      DUE.same("u stays", Desk.get(x, 1), u);
      DUE.is("share costs 1", x.count(1), 399);
    }
  }

  private static void sharedNothing() {
    BigInteger[] us = {
      BigInteger.ZERO, BigInteger.ONE, Model.P, Model.P.add(BigInteger.ONE), Model.P.subtract(BigInteger.ONE),
      Desk.two(255), Desk.two(255).add(BigInteger.ONE), Model.P.setBit(255),
      Desk.hex("e0eb7a7c3b41b8ae1656e3faf19fc46ada098deb9c32b1fd866205165f49b800"),
      Desk.hex("5f9c95bca3508c24b1d0b1559c83ef5b04445cc4581c8e86d8224eddd09f1157")
    };
    for (BigInteger u : us) {
      LadderSigns x = Desk.with(Numbers.ALL, u, Numbers.ALL);
      DUE.is("share of " + u, x.share(0, 1, 2), 0);
      DUE.same("t becomes 0", Desk.get(x, 2), BigInteger.ZERO);
      DUE.is("that costs 1 too", x.count(1), 399);
    }
  }

  private static void sharedBits() {
    BigInteger k = Desk.hex("a546e36bf0527c9d3b16154b82465edd62144c0ac1fc5a18506a2244ba449ac4");
    BigInteger due = shared(k, NINE);
    for (int bit : new int[] {0, 1, 2, 254, 255}) DUE.same("bit " + bit + " of k", shared(k.flipBit(bit), NINE), due);
    for (int bit : new int[] {3, 100, 253}) {
      DUE.is("bit " + bit + " of k counts", shared(k.flipBit(bit), NINE).equals(due) ? 0 : 1, 1);
    }
    DUE.same("bit 255 of u", shared(k, NINE.setBit(255)), due);
    DUE.same("p + 9 as u", shared(k, Model.P.add(NINE)), due);
  }

  private static void sharedAsInJava() throws GeneralSecurityException {
    Random random = new Random(7748);
    KeyFactory keys = KeyFactory.getInstance("X25519");
    for (int i = 0; i < 100; i++) {
      BigInteger k = new BigInteger(256, random);
      BigInteger u = new BigInteger(255, random);
      KeyAgreement agreement = KeyAgreement.getInstance("X25519");
      agreement.init(keys.generatePrivate(new XECPrivateKeySpec(NamedParameterSpec.X25519, Desk.row(k, 32))));
      agreement.doPhase(keys.generatePublic(new XECPublicKeySpec(NamedParameterSpec.X25519, u)), true);
      DUE.same("as Java's X25519", shared(k, u), Desk.number(agreement.generateSecret()));
    }
  }

  private static void digests() {
    Random random = new Random(180);
    for (int length = 0; length <= 400; length++) {
      byte[] text = new byte[length];
      random.nextBytes(text);
      LadderSigns x = Desk.with();
      Desk.write(x, text);
      int t = length % 23;
      DUE.is("digest", x.digest(t), 1);
      BigInteger due = Desk.number(Model.sha(text));
      BigInteger got = Desk.get(x, t).add(Desk.get(x, t + 1).shiftLeft(256));
      DUE.same("digest of " + length + " bytes", got, due);
      DUE.is("THE TEXT stays", x.count(0), length);
      x.clear();
      x.digest(0);
      DUE.same("digest of none after them", Desk.get(x, 0), Desk.number(Arrays.copyOf(Model.sha(), 32)));
      DUE.is("digest costs nothing", x.count(1), 400);
    }
  }

  private static void keysAndSignaturesByTheBook() {
    for (String[] row : SIGNED) {
      LadderSigns x = Desk.with(Desk.hex(row[0]));
      Desk.write(x, Desk.bytes(row[2]));
      DUE.is("key", x.key(0, 1), 1);
      DUE.same("key of RFC 8032", Desk.get(x, 1), Desk.hex(row[1]));
      DUE.is("key costs 1", x.count(1), 399);
      DUE.is("sign", x.sign(0, 22), 1);
      DUE.same("R of RFC 8032", Desk.get(x, 22), Desk.hex(row[3].substring(0, 64)));
      DUE.same("S of RFC 8032", Desk.get(x, 23), Desk.hex(row[3].substring(64)));
      DUE.is("sign costs 2", x.count(1), 397);
      DUE.is("one SIGNATURE made", x.count(2), 1);
      DUE.is("none JUDGED", x.count(3), 0);
      DUE.is("judge", x.judge(1, 22), 1);
      DUE.same("the SECRET stays", Desk.get(x, 0), Desk.hex(row[0]));
      DUE.is("THE TEXT stays", x.count(0), row[2].length() / 2);
    }
  }

  private static void keysOfAnyKind() {
    for (BigInteger secret : Numbers.ends()) {
      LadderSigns x = Desk.with(secret);
      DUE.is("key", x.key(0, 1), 1);
      DUE.same("key of " + secret, Desk.get(x, 1), Model.publicKey(secret));
    }
  }

  private static void signedAsInJava() throws GeneralSecurityException {
    Random random = new Random(8032);
    KeyFactory keys = KeyFactory.getInstance("Ed25519");
    for (int length = 0; length <= 400; length += length < 130 ? 1 : 27) {
      byte[] text = new byte[length];
      random.nextBytes(text);
      BigInteger secret = new BigInteger(256, random);
      Signature signature = Signature.getInstance("Ed25519");
      signature.initSign(keys.generatePrivate(new EdECPrivateKeySpec(NamedParameterSpec.ED25519, Desk.row(secret, 32))));
      signature.update(text);
      BigInteger due = Desk.number(signature.sign());
      LadderSigns x = Desk.with(secret);
      Desk.write(x, text);
      DUE.is("sign", x.sign(0, 1), 1);
      DUE.same("as Java's Ed25519 of " + length + " bytes", Desk.get(x, 1).add(Desk.get(x, 2).shiftLeft(256)), due);
      x.key(0, 3);
      DUE.is("judge", x.judge(3, 1), 1);
    }
  }

  private static void inPlace() {
    BigInteger secret = Desk.hex(SIGNED[0][0]);
    BigInteger bigR = Desk.hex(SIGNED[0][3].substring(0, 64));
    BigInteger s = Desk.hex(SIGNED[0][3].substring(64));
    LadderSigns x = Desk.with(secret);
    x.key(0, 0);
    DUE.same("key in place", Desk.get(x, 0), Desk.hex(SIGNED[0][1]));
    for (int place = 5; place <= 6; place++) {
      Desk.put(x, place, secret);
      DUE.is("sign over its SECRET", x.sign(place, 5), 1);
      DUE.same("R over the SECRET in " + place, Desk.get(x, 5), bigR);
      DUE.same("S over the SECRET in " + place, Desk.get(x, 6), s);
    }
    BigInteger u = BigInteger.valueOf(9);
    for (int t = 7; t <= 8; t++) {
      Desk.put(x, 7, secret);
      Desk.put(x, 8, u);
      x.share(7, 8, t);
      DUE.same("share in place " + t, Desk.get(x, t), Model.ladder(secret, u));
    }
    Desk.put(x, 9, secret);
    x.share(9, 9, 9);
    DUE.same("share of one slot", Desk.get(x, 9), Model.ladder(secret, Model.fieldNumber(secret)));
  }

  private static void unknownSlots() {
    LadderSigns x = Desk.with(BigInteger.TEN);
    for (int no : new int[] {-1, 24, Integer.MIN_VALUE, Integer.MAX_VALUE}) {
      DUE.is("share k", x.share(no, 0, 0), -101);
      DUE.is("share u", x.share(0, no, 0), -101);
      DUE.is("share t", x.share(0, 0, no), -101);
      DUE.is("digest", x.digest(no), -101);
      DUE.is("key s", x.key(no, 0), -101);
      DUE.is("key t", x.key(0, no), -101);
      DUE.is("sign s", x.sign(no, 0), -101);
      DUE.is("sign t", x.sign(0, no), -101);
      DUE.is("judge a", x.judge(no, 0), -101);
      DUE.is("judge r", x.judge(0, no), -101);
    }
    DUE.is("digest(23)", x.digest(23), -101);
    DUE.is("sign(0, 23)", x.sign(0, 23), -101);
    DUE.is("judge(0, 23)", x.judge(0, 23), -101);
    DUE.is("digest(-1)", x.digest(-1), -101);
    DUE.same("slot 23", Desk.get(x, 23), BigInteger.ZERO);
    DUE.same("slot 0", Desk.get(x, 0), BigInteger.TEN);
    DUE.is("refused calls cost nothing", x.count(1), 400);
    DUE.is("none made", x.count(2), 0);
    DUE.is("none JUDGED", x.count(3), 0);
  }
}
